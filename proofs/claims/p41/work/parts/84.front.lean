/-! the law's front -/
theorem al_up (σ : Hp) (n m K a b : Nat) : (σ.up n m).al K a b = (σ.al K a b).up n m := by
  show (_, _, _, _, _, _, _, σ.cl + n + 1, σ.sl + m + b) = (_, _, _, _, _, _, _, σ.cl + 1 + n, σ.sl + b + m)
  rw [Nat.add_right_comm σ.cl n 1, Nat.add_right_comm σ.sl m b]
  rfl
theorem class_made {X : Cx} {σ : Hp} {n m : Nat} (hn : n ≤ 500) (hm : m ≤ 10000) (h1 : X.t0 < X.b0) (h2 : σ.sz = X.b0) (h3 : ∀ a, σ.kd a = 0) (h4 : σ.cl = 0) (h5 : σ.sl = 0) :
    ∃ τ A B, Ct X m_X10_init 7 [va_rf (some σ.sz)] (σ.al 14 0 12) (.inl none) τ ∧ CS X (σ.up n m) (τ.up n m) A c00 B ∧ A 13 0 = σ.sz := by
  have h0 := cn_zero (X := X) (σ := σ.up n m) h1 h2 h3 (by show σ.cl + n ≤ 500; omega) (by show σ.sl + m ≤ 10000; omega)
  have c1 := h0.1.new (ci := 13) (N := 12) ⟨by decide, by decide⟩ (by decide) (Int.le_refl 0)
  have hg : rg (cnew cZ 13) 13 0 := ⟨⟨by decide, by decide⟩, Int.le_refl 0, by decide⟩
  obtain ⟨τu, A2, B2, g1, g2, g3, g4⟩ := s_X10_init (X := X) (ρ := σ.up n m) _ _ _ ⟨c1, h0.2.new 13⟩ (fun x hx => by
    rcases List.mem_cons.mp hx with rfl | hx
    · exact wv_r hg
    · cases hx)
  have ea : upA (fun _ _ => 0) 13 (cZ.1 13) (σ.up n m).sz 13 0 = σ.sz := upA_new
  have e13 : A2 13 0 = σ.sz := ((g3 13 0 hg).1).trans ea
  have l1 : σ.cl + n + 1 ≤ τu.cl := g1.1
  have l2 : σ.sl + m + 12 ≤ τu.sl := g1.2.1
  obtain ⟨τ, et⟩ : ∃ τ : Hp, τ.up n m = τu := ⟨(τu.kd, τu.ln, τu.iv, τu.rv, τu.lv, τu.dv, τu.sz, τu.cl - n, τu.sl - m), by
    show (_, _, _, _, _, _, _, τu.cl - n + n, τu.sl - m + m) = τu
    rw [Nat.sub_add_cancel (by omega), Nat.sub_add_cancel (by omega)]
    rfl⟩
  subst et
  refine ⟨τ, A2, B2, ?_, ⟨g2.1, fx00 g2.2⟩, e13⟩
  refine Ct.shift n m ?_
  rw [← al_up]
  have g1' : Ct X m_X10_init 7 [ia (upA (fun _ _ => 0) 13 (cZ.1 13) (σ.up n m).sz) (13, 0)] ((σ.up n m).al 14 0 12) (.inl none) (τ.up n m) := g1
  rw [ia_rg hg, ea] at g1'
  exact g1'
