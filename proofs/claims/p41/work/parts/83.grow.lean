/-! the heap grew by cells that aren't the class's -/
theorem CS.grow {X : Cx} {ρ σ τ : Hp} {A : Nat → Int → Nat} {c : Cs} {B : Int → Nat} (h : CS X ρ σ A c B) (hw : WF X τ) (hf : ∀ a, σ.kd a ≠ 0 → τ.kd a = σ.kd a ∧ τ.ln a = σ.ln a ∧ τ.iv a = σ.iv a ∧ τ.rv a = σ.rv a) (hcl : τ.cl ≤ σ.cl) (hsl : τ.sl ≤ σ.sl) : CS X τ τ A c B := by
  have h9 := h
  obtain ⟨⟨w, kd, inj, iv, rv, ll, ap, fg, rm⟩, hF⟩ := h
  have nz : ∀ ci i, rg c ci i → σ.kd (A ci i) ≠ 0 := fun ci i q => by rw [kd ci i q]; omega
  have cp : ∀ l, 0 ≤ l → l < ((c.1 2).toNat : Int) → cap X τ (B l) = cap X σ (B l) := fun l a b => h9.1.cap_of a (by have := rm.1; omega) (fun x hx => (hf x hx).2.1)
  refine ⟨⟨hw, fun ci i q => ?_, inj, fun ci k i q h3 h4 => ?_, fun ci k i q h3 h4 => ?_, fun l h0 h1 => ⟨?_, (ll l h0 h1).2⟩, ap, ⟨Nat.le_refl _, fun a ha => ⟨(hw.2.2 a (fgn_no ha).2.2).2, rfl, rfl, rfl, rfl, rfl, rfl⟩⟩, rm.1, ?_, ?_⟩, hF⟩
  · rw [(hf _ (nz ci i q)).1]
    exact kd ci i q
  · rw [(hf _ (nz ci i q)).2.2.1]
    exact iv ci k i q h3 h4
  · rw [(hf _ (nz ci i q)).2.2.2]
    exact rv ci k i q h3 h4
  · have q := hf _ (nz 2 l ⟨⟨by decide, by decide⟩, h0, h1⟩)
    exact (ll l h0 h1).1.congr q.1 (by rw [q.2.2.1]) (by rw [q.2.2.2]) (fun hb => ⟨(hf _ hb).2.1, (hf _ hb).2.2.2⟩) (fun y hy => (hf y hy).1)
  · rw [sF_congr (f := fun l => cap X σ (B l)) _ (fun i a b => cp i a b)]
    have := rm.2.1
    omega
  · rw [sF_congr (f := fun l => cap X σ (B l) * cap X σ (B l)) _ (fun i a b => by show cap X τ (B i) * cap X τ (B i) = _; rw [cp i a b])]
    have := rm.2.2
    omega
/-- nothing is there yet -/
theorem cn_zero {X : Cx} {σ : Hp} (h1 : X.t0 < X.b0) (h2 : σ.sz = X.b0) (h3 : ∀ a, σ.kd a = 0) (h4 : σ.cl ≤ 500) (h5 : σ.sl ≤ 10000) : CN X σ σ (fun _ _ => 0) cZ (fun _ => 0) := by
  have no : ∀ ci i, ¬ rg cZ ci i := fun ci i q => by
    have a := q.2.1
    have b : i < 0 := q.2.2
    omega
  refine ⟨⟨⟨h1, by omega, fun a ha => absurd (h3 a) ha⟩, fun ci i q => absurd q (no ci i), fun ci i j q => absurd q (no ci i), fun ci k i q => absurd q (no ci i), fun ci k i q => absurd q (no ci i), fun l a b => ?_, fun l l' a b => ?_, ⟨Nat.le_refl _, fun a ha => ?_⟩, Int.le_refl 0, ?_, ?_⟩, fun ci => Int.le_refl 0⟩
  · have b' : l < 0 := b
    omega
  · have b' : l < 0 := b
    omega
  · exact absurd (h3 a) (fgn_no ha).2.2
  · show (σ.cl : Int) ≤ 500 + 0 + 0 + 0
    omega
  · show (σ.sl : Int) ≤ 10000 + 60 * 0 + 6 * 0 + 0
    omega
/-- a contract speaks of differences only -/
theorem Ct.shift {X : Cx} {M : Mt} {d : Nat} {av : List Value} {σ τ : Hp} {o : Rs} (n m : Nat) (h : Ct X M d av (σ.up n m) o (τ.up n m)) : Ct X M d av σ o τ := by
  obtain ⟨h1, h2, h3, h4⟩ := h
  have e1 : σ.cl + n ≤ τ.cl + n := h1
  have e2 : σ.sl + m ≤ τ.sl + m := h2
  have e3 : (τ.up n m).cl - (σ.up n m).cl = τ.cl - σ.cl := by show τ.cl + n - (σ.cl + n) = _; omega
  have e4 : (τ.up n m).sl - (σ.up n m).sl = τ.sl - σ.sl := by show τ.sl + m - (σ.sl + m) = _; omega
  refine ⟨by omega, by omega, h3, fun l hl => ?_⟩
  have g := h4 l hl
  rw [e3, e4] at g
  exact g
