/-! more rules of the class's judgement; the fuel of its loops -/
def fu : Nat := 1000
theorem fu_s : fu = 999 + 1 := rfl
theorem cput_eq (c : Cs) (ci k : Nat) (i x : Int) : (cput c ci k i x).2.1 ci k i = x := if_pos ⟨rfl, rfl, rfl⟩
theorem cput_k (c : Cs) {ci k : Nat} {i x : Int} {a b : Nat} {j : Int} (h : ¬ (a = ci ∧ b = k)) : (cput c ci k i x).2.1 a b j = c.2.1 a b j := if_neg (fun q => h ⟨q.1, q.2.1⟩)
theorem cput_i (c : Cs) {ci k : Nat} {i x : Int} {a b : Nat} {j : Int} (h : ¬ j = i) : (cput c ci k i x).2.1 a b j = c.2.1 a b j := if_neg (fun q => h q.2.2)
theorem clst_eq (c : Cs) (l : Int) (xs : List Int) : (clst c l xs).2.2.1 l = xs := if_pos rfl
theorem clst_ne (c : Cs) {l : Int} {xs : List Int} {j : Int} (h : ¬ j = l) : (clst c l xs).2.2.1 j = c.2.2.1 j := if_neg h
theorem lrg_of {c : Cs} {ls : List (Option AV)} {i : Nat} {l : Int} (h : WL c ls) (hi : ls[i]? = some (some (2, l))) : 0 ≤ l ∧ l < c.1 2 := ((h.get hi).r ⟨by decide, by decide⟩).2
theorem yst_rg {c : Cs} {ls : List (Option AV)} {i : Nat} {s : Int} (hF : Fx0 c) (h : WL c ls) (hi : ls[i]? = some (some (12, s))) : 0 ≤ s ∧ s < 4 := by
  have h1 := ((h.get hi).r ⟨by decide, by decide⟩).2
  have h2 := hF.1.2.2.2.1
  rw [h2] at h1
  exact h1
section EC3
variable {X : Cx} {ρ : Hp} {M : Mt} {d pc : Nat} {ls : List (Option AV)} {st : List AV} {c c' : Cs} {r : Rr}
theorem Ec.aretQ {t : Nat} {z : Int} {ty : FieldType} (h2 : 2 ≤ t ∧ t < 100) (hr : M.rt = some ty) (ht : ty.isReference = true) (d9 : decode M.cc pc = .ok (.areturn, 1)) (ho : r = .inl (some (t + 100, z))) (hc : c' = c) : Ec X ρ M d pc ls [(t, z)] c r c' := by
  subst ho hc
  refine fun A σ B hC _ hs => ⟨σ, A, B, ?_, hC, EX.rfl', fun y hy => by cases hy; exact wv_q (Or.inr (hs.hd.r h2))⟩
  have hg := hs.hd.r h2
  show Ev X M d pc (vl A ls) [ia A (t, z)] σ (.inl (some (ia A (t + 100, z)))) σ
  rw [ia_q, oA_some hg.nn, ia_rg hg]
  exact Ev.aret hr ht d9
theorem Ec.newl {ix iy : Nat} (hw : Cond.classLink M.y.cls ix "java/util/ArrayList" ∈ lw_tbl) (hw2 : Cond.instantiable "java/util/ArrayList" 3 ∈ lw_tbl) (hw3 : Cond.initialized "java/util/ArrayList" ∈ lw_tbl) (hwi : Cond.methodLink M.y.cls iy m_Jx4a65c_init_da8c8.y ∈ lw_tbl)
    (d0 : decode M.cc pc = .ok (.new ix, 3)) (d3 : decode M.cc (pc + 3) = .ok (.dup, 1)) (d4 : decode M.cc (pc + 4) = .ok (.invokespecial iy, 3)) (hd : 4 ≤ d) (hsm : st.length ≤ 7) (k : Ec X ρ M d (pc + 7) ls ((2, c.1 2) :: st) (cnewl c) r c') : Ec X ρ M d pc ls st c r c' := by
  intro A σ B hC hl hs
  have hE : EX c A (cnewl c) (upA A 2 (c.1 2) σ.sz) := fun cj j hj => ⟨upA_old hj, rg_oldl hj⟩
  have hg : rg (cnewl c) 2 (c.1 2) := ⟨⟨by decide, by decide⟩, hC.2.1.1 2, by
    show c.1 2 < (if 2 = 2 then c.1 2 + 1 else c.1 2)
    rw [if_pos rfl]
    omega⟩
  obtain ⟨τ, A', B', k1, k2, k3, k4⟩ := k (upA A 2 (c.1 2) σ.sz) _ _ ⟨hC.1.newl, hC.2.newl⟩ (hE.ls hl).2 (WS.cons (wv_r hg) (hE.st hs).2)
  refine ⟨τ, A', B', ?_, k2, hE.trans k3, k4⟩
  have k1' : Ev X M d (pc + 7) (vl (upA A 2 (c.1 2) σ.sz) ls) (ia (upA A 2 (c.1 2) σ.sz) (2, c.1 2) :: st.map (ia (upA A 2 (c.1 2) σ.sz))) (((σ.al 3 0 3).setI σ.sz 0 (i32 0)).setR σ.sz 1 (some X.t0)) (ir A' r) τ := k1
  rw [(hE.ls hl).1, (hE.st hs).1, ia_rg hg, upA_new] at k1'
  refine Ev.new (ci := 2) (C := RJx4a65c) (T := TJx4a65c) (N := 3) rfl (by decide) hw hw2 hw3 d0 ?_
  refine Ev.dup d3 rfl ?_
  refine Ev.callI (As := []) (rest := va_rf (some σ.sz) :: st.map (ia A)) (d' := 3) k_Jx4a65c_init_da8c8 rfl rfl hwi ki_Jx4a65c_init_da8c8 d4 rfl rfl ?_ hd (s_linit (up1_eq _ _ _)) k1'
  show 1 + ((st.map (ia A)).map fun v => v.category).sum ≤ 8
  rw [ws_cat]
  omega
end EC3
theorem fit_c {z : Int} (h0 : 0 ≤ z) (h1 : z < 65536) : fits .char (.int (i32 z)) = true := by
  have h2 : ¬ (i32 z < 0) := fun h => by
    have : i32 z < i32 0 := h
    rw [i32_lt ⟨by omega, by omega⟩ ⟨by omega, by omega⟩] at this
    omega
  have h3 : i32 z ≤ i32 65535 := (i32_le ⟨by omega, by omega⟩ ⟨by omega, by omega⟩).mpr (by omega)
  have h4 : i32 0 ≤ i32 z := (i32_le ⟨by omega, by omega⟩ ⟨by omega, by omega⟩).mpr h0
  first
  | exact decide_eq_true ⟨h4, h3⟩
  | (show (decide (i32 0 ≤ i32 z) && decide (i32 z ≤ i32 65535)) = true; rw [decide_eq_true h4, decide_eq_true h3]; rfl)
  | (show (decide (0 ≤ (i32 z).toInt) && decide ((i32 z).toInt ≤ 65535)) = true; rw [i32_toInt ⟨by omega, by omega⟩, decide_eq_true h0, decide_eq_true (show z ≤ 65535 by omega)]; rfl)
  | exact decide_eq_true (show (0 ≤ (i32 z).toInt ∧ (i32 z).toInt ≤ 65535) by rw [i32_toInt ⟨by omega, by omega⟩]; omega)
