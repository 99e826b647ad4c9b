/-! arrays, new things, ends, throws -/
theorem va_P1 {D : va_G} {cl : List vw_C} {q : Nat × va_E} {H : Heap} (h : va_at D cl q H) : va_P D cl [q] H := by
  intro k x hk
  cases k with
  | zero => cases hk; exact h
  | succ k => cases hk
theorem up2_upd (f : Nat → Nat → Int32) (a k : Nat) (x : Int32) : up2 f a k x a = upd (f a) k x := by
  funext j
  by_cases h : j = k <;> simp [up2, upd, h]
theorem up2_va {α : Type} (f : Nat → Nat → α) (a k : Nat) (x : α) : up2 f a k x a = va_up (f a) k x := by
  funext j
  by_cases h : j = k <;> simp [up2, va_up, h]
theorem mem_loc {X : Cx} {locs : List Loc} {a k : Nat} (hlo : ∀ q ∈ locs, X.b0 ≤ q.base) (ha : X.b0 ≤ a) : ∀ q ∈ locs ++ [(⟨a, k⟩ : Loc)], X.b0 ≤ q.base := fun q hq => by
  rcases List.mem_append.mp hq with h | h
  · exact hlo q h
  · rw [List.mem_singleton.mp h]; exact ha
theorem HS.new {X : Cx} {σ : Hp} {H H' : Heap} {K n w : Nat} (h : HS X σ H) (hK : K ≤ 14 ∨ 20 ≤ K ∧ K ≤ 24) (z : H'.size = H.size + 1) (oq : ∀ q, q < H.size → H'[q]? = H[q]?) (ha : hAt X (σ.al K n w) H' σ.sz) : HS X (σ.al K n w) H' := by
  obtain ⟨h1, h2, h3, h4, h5⟩ := h
  have ksz : σ.kd σ.sz = 0 := by
    cases hk : σ.kd σ.sz with
    | zero => rfl
    | succ j => exact absurd (h3 σ.sz (by rw [hk]; omega)).2.1 (Nat.lt_irrefl _)
  refine ⟨by rw [z, h1]; rfl, Nat.le_succ_of_le h2, fun b hb => ?_, fun b => ?_, fun q hq => ?_⟩
  · by_cases hbs : b = σ.sz
    · subst hbs
      refine ⟨h2, Nat.lt_succ_self _, ?_⟩
      have e : (σ.al K n w).kd σ.sz = K := up1_eq _ _ _
      rw [e]; exact hK
    · have e : (σ.al K n w).kd b = σ.kd b := up1_ne _ _ hbs
      rw [e] at hb ⊢
      obtain ⟨g1, g2, g3⟩ := h3 b hb
      exact ⟨g1, Nat.lt_succ_of_lt g2, g3⟩
  · by_cases hbs : b = σ.sz
    · rw [hbs]; exact ha
    · by_cases hk0 : σ.kd b = 0
      · have e : (σ.al K n w).kd b = 0 := (up1_ne _ _ hbs).trans hk0
        refine ⟨fun ci r hk hr => ?_, fun h => ?_, fun h => ?_, fun h => ?_, fun h => ?_, fun h => ?_⟩
        · rw [e] at hk; omega
        all_goals (rw [e] at h; omega)
      · exact (h4 b).mov (oq b (by rw [h1]; exact (h3 b hk0).2.1)) (up1_ne _ _ hbs) (up1_ne _ _ hbs) (up1_ne _ _ hbs) (up1_ne _ _ hbs) (up1_ne _ _ hbs) (up1_ne _ _ hbs)
  · rw [oq q (by rw [h1]; omega)]
    exact h5 q hq
theorem HS.exn {X : Cx} {σ : Hp} {H H' : Heap} (h : HS X σ H) (z : H'.size = H.size + 1) (oq : ∀ q, q < H.size → H'[q]? = H[q]?) : HS X σ.ex H' := by
  obtain ⟨h1, h2, h3, h4, h5⟩ := h
  refine ⟨by rw [z, h1]; rfl, Nat.le_succ_of_le h2, fun b hb => ?_, fun b => ?_, fun q hq => ?_⟩
  · obtain ⟨g1, g2, g3⟩ := h3 b hb
    exact ⟨g1, Nat.lt_succ_of_lt g2, g3⟩
  · by_cases hk0 : σ.kd b = 0
    · refine ⟨fun ci r hk hr => ?_, fun h => ?_, fun h => ?_, fun h => ?_, fun h => ?_, fun h => ?_⟩
      · have e : σ.kd b = ci + 1 := hk
        omega
      all_goals (have e : σ.kd b = _ := h; omega)
    · exact (h4 b).mov (oq b (by rw [h1]; exact (h3 b hk0).2.1)) rfl rfl rfl rfl rfl rfl
  · rw [oq q (by rw [h1]; omega)]
    exact h5 q hq
section ARR
variable {X : Cx} {M : Mt} {d pc : Nat} {ls : List (Option Value)} {rest : List Value} {σ τ : Hp} {o : Rs}
theorem Ev.iald {a : Nat} {i : Int32} (hkd : σ.kd a = 20) (hj : vp_in i (σ.ln a)) (d9 : decode M.cc pc = .ok (.iaload, 1)) (k : Ev X M d (pc + 1) ls (.int (σ.iv a i.toNatClampNeg) :: rest) σ o τ) : Ev X M d pc ls (.int i :: va_rf (some a) :: rest) σ o τ :=
  Ev.pure (fun p l e R s m args below meth c H locs cells slots Q la hF _ _ _ _ _ hH hl kk => by
    obtain ⟨hx, hb, -, -, -, -, -, -, -, hK, hW, -, -⟩ := hF
    exact va_iald hx hb (hK.va hW) (va_P1 (q := (a, .inl (X.cs 0, (σ.ln a, .inl (σ.iv a))))) ((hH.2.2.2.1 a).2.1 hkd)) 0 0 rfl rfl hj d9 (kk _ hl)) k
theorem Ev.zald {a : Nat} {i : Int32} (hkd : σ.kd a = 23) (hj : vp_in i (σ.ln a)) (d9 : decode M.cc pc = .ok (.baload, 1)) (k : Ev X M d (pc + 1) ls (.int (σ.iv a i.toNatClampNeg) :: rest) σ o τ) : Ev X M d pc ls (.int i :: va_rf (some a) :: rest) σ o τ :=
  Ev.pure (fun p l e R s m args below meth c H locs cells slots Q la hF _ _ _ _ _ hH hl kk => by
    obtain ⟨hx, hb, -, -, -, -, -, -, -, hK, hW, -, -⟩ := hF
    exact va_zald hx hb (hK.va hW) (va_P1 (q := (a, .inl (X.cs 3, (σ.ln a, .inl (σ.iv a))))) ((hH.2.2.2.1 a).2.2.2.2.1 hkd)) 0 3 rfl rfl hj d9 (kk _ hl)) k
theorem Ev.aald {a : Nat} {i : Int32} (hkd : σ.kd a = 24) (hj : vp_in i (σ.ln a)) (d9 : decode M.cc pc = .ok (.aaload, 1)) (k : Ev X M d (pc + 1) ls (va_rf (σ.rv a i.toNatClampNeg) :: rest) σ o τ) : Ev X M d pc ls (.int i :: va_rf (some a) :: rest) σ o τ :=
  Ev.pure (fun p l e R s m args below meth c H locs cells slots Q la hF _ _ _ _ _ hH hl kk => by
    obtain ⟨hx, hb, -, -, -, -, -, -, -, hK, hW, -, -⟩ := hF
    exact va_aldq hx hb (hK.va hW) (va_P1 (q := (a, .inl (X.cs 4, (σ.ln a, .inr (.inr (.inr (.inr (σ.rv a)))))))) ((hH.2.2.2.1 a).2.2.2.2.2 hkd)) 0 4 rfl rfl hj d9 (kk _ hl)) k
theorem Ev.iast {a : Nat} {i x : Int32} (hkd : σ.kd a = 20) (hj : vp_in i (σ.ln a)) (d9 : decode M.cc pc = .ok (.iastore, 1)) (k : Ev X M d (pc + 1) ls rest (σ.setI a i.toNatClampNeg x) o τ) : Ev X M d pc ls (.int x :: .int i :: va_rf (some a) :: rest) σ o τ :=
  Ev.step (σ1 := σ.setI a i.toNatClampNeg x) (Nat.le_refl _) (Nat.le_refl _) (Nat.le_refl _) (fun p l e R s m args below meth c H locs cells slots Q la hF _ _ hRc hRs _ hH hlo hl kk => by
    obtain ⟨hx, hb, -, -, -, -, -, -, -, hK, hW, -, -⟩ := hF
    rw [show (σ.setI a i.toNatClampNeg x).cl - σ.cl = 0 from Nat.sub_self _, show (σ.setI a i.toNatClampNeg x).sl - σ.sl = 0 from Nat.sub_self _] at kk
    have hba := hH.2.2.1 a (by omega)
    refine W.iast hx hb ((hH.2.2.2.1 a).2.1 hkd) (((hK.va hW).2 0 _ rfl).1 _ (fun j => .int (σ.iv a j))) (fun q => by cases q) (by show ¬ (i < 0 ∨ (arrV _ _ _).slots.size ≤ _); rw [arrV_size]; exact hj) rfl rfl d9 fun H1 e z oq => ?_
    refine kk H1 _ la (hH.upd hba.1 rfl rfl rfl (fun b hb => up2_row _ _ _ hb) (fun _ _ => rfl) (fun _ _ => rfl) (fun _ _ => rfl) z oq ⟨fun ci r hk hr => ?_, fun _ => ?_, fun h => ?_, fun h => ?_, fun h => ?_, fun h => ?_⟩) (mem_loc hlo hba.1) hl
    · have := vwCl_lt hr
      have : σ.kd a = ci + 1 := hk
      omega
    · rw [e]
      show _ = some (vp_cell _ (_, .inl (up2 σ.iv a _ x a)))
      rw [up2_upd, vp_cell_i, vp_cell_i, arrV_store]
      congr 2
      funext q
      by_cases hq : q = i.toNatClampNeg
      · subst hq
        simp [updV, upd]
      · simp [updV, upd, hq]
    all_goals (have : σ.kd a = _ := h; omega)) k
theorem Ev.zast {a : Nat} {i x : Int32} (hkd : σ.kd a = 23) (hj : vp_in i (σ.ln a)) (hn : narrow .boolean (.int x) = .int x) (d9 : decode M.cc pc = .ok (.bastore, 1)) (k : Ev X M d (pc + 1) ls rest (σ.setI a i.toNatClampNeg x) o τ) : Ev X M d pc ls (.int x :: .int i :: va_rf (some a) :: rest) σ o τ :=
  Ev.step (σ1 := σ.setI a i.toNatClampNeg x) (Nat.le_refl _) (Nat.le_refl _) (Nat.le_refl _) (fun p l e R s m args below meth c H locs cells slots Q la hF _ _ hRc hRs _ hH hlo hl kk => by
    obtain ⟨hx, hb, -, -, -, -, -, -, -, hK, hW, -, -⟩ := hF
    rw [show (σ.setI a i.toNatClampNeg x).cl - σ.cl = 0 from Nat.sub_self _, show (σ.setI a i.toNatClampNeg x).sl - σ.sl = 0 from Nat.sub_self _] at kk
    have hba := hH.2.2.1 a (by omega)
    refine W.zast hx hb ((hH.2.2.2.1 a).2.2.2.2.1 hkd) (((hK.va hW).2 3 _ rfl).1 _ (fun j => .int (σ.iv a j))) (fun q => by cases q) (by show ¬ (i < 0 ∨ (arrV _ _ _).slots.size ≤ _); rw [arrV_size]; exact hj) rfl rfl d9 fun H1 e z oq => ?_
    rw [hn] at e
    refine kk H1 _ la (hH.upd hba.1 rfl rfl rfl (fun b hb => up2_row _ _ _ hb) (fun _ _ => rfl) (fun _ _ => rfl) (fun _ _ => rfl) z oq ⟨fun ci r hk hr => ?_, fun h => ?_, fun h => ?_, fun h => ?_, fun _ => ?_, fun h => ?_⟩) (mem_loc hlo hba.1) hl
    · have := vwCl_lt hr
      have : σ.kd a = ci + 1 := hk
      omega
    rotate_left 3
    · rw [e]
      show _ = some (vp_cell _ (_, .inl (up2 σ.iv a _ x a)))
      rw [up2_upd, vp_cell_i, vp_cell_i, arrV_store]
      congr 2
      funext q
      by_cases hq : q = i.toNatClampNeg
      · subst hq
        simp [updV, upd]
      · simp [updV, upd, hq]
    all_goals (have : σ.kd a = _ := h; omega)) k
end ARR
