/-! the law's front: from its entry to its loop, and through it to its end -/
theorem gm_al {σ : Hp} {m0 K k w : Nat} {v : Vw} (h : GM σ m0 ∧ Hm σ m0 v = σ) (hz : m0 + 36 ≤ σ.sz) : GM (σ.al K k w) m0 ∧ Hm (σ.al K k w) m0 v = σ.al K k w := by
  obtain ⟨⟨g0, g1⟩, hH⟩ := h
  have ekd : ∀ a, a < m0 + 36 → (σ.al K k w).kd a = σ.kd a := fun a ha => if_neg (by omega)
  have eln : ∀ a, a < m0 + 36 → (σ.al K k w).ln a = σ.ln a := fun a ha => if_neg (by omega)
  have erv : ∀ a, a < m0 + 36 → (σ.al K k w).rv a = σ.rv a := fun a ha => if_neg (by omega)
  have eiv : ∀ a, a < m0 + 36 → (σ.al K k w).iv a = σ.iv a := fun a ha => if_neg (by omega)
  refine ⟨⟨(ekd m0 (by omega)).trans g0, fun k2 k1 k3 => ?_⟩, Hm_eq (fun a j => ?_)⟩
  · obtain ⟨q1, q2, q3⟩ := g1 k2 k1 k3
    exact ⟨by rw [erv m0 (by omega)]; exact q1, (ekd _ (by omega)).trans q2, (eln _ (by omega)).trans q3⟩
  · have hA := Hm_at hH a j
    by_cases e : a = m0
    · rw [if_pos e] at hA ⊢
      rw [eiv a (by omega)]
      exact hA
    · rw [if_neg e] at hA ⊢
      by_cases e2 : m0 < a ∧ a < m0 + 36
      · rw [if_pos e2] at hA ⊢
        rw [eiv a e2.2]
        exact hA
      · rw [if_neg e2]
theorem wf_al {X : Cx} {σ : Hp} {K k w : Nat} (h : WF X σ) : WF X (σ.al K k w) := by
  obtain ⟨h1, h2, h3⟩ := h
  refine ⟨h1, Nat.le_succ_of_le h2, fun a ha => ?_⟩
  show X.b0 ≤ a ∧ a < σ.sz + 1
  by_cases e : a = σ.sz
  · omega
  · have e1 : (σ.al K k w).kd a = σ.kd a := if_neg e
    rw [e1] at ha
    have := h3 a ha
    omega
/-- the heap where the loop begins -/
def hl5 (τ : Hp) : Hp := (((mh (τ.al 15 0 47) τ.sz 35).al 21 1 1).al 22 1 1)
theorem front_lw {X : Cx} {ρ τ : Hp} {n m : Nat} {A : Nat → Int → Nat} {B : Int → Nat} {c : Cs} (hn : 38 ≤ n) (hm : 4600 ≤ m) (h : CS X ρ (τ.up n m) A c B) :
    LW X (hl5 τ) A c B τ.sz (τ.sz + 36) (τ.sz + 37) v00 := by
  have hw : WF X (τ.up n m) := h.1.1
  have w1 : X.t0 < X.b0 := hw.1
  have w2 : X.b0 ≤ τ.sz := hw.2.1
  have w3 : ∀ a, τ.kd a ≠ 0 → X.b0 ≤ a ∧ a < τ.sz := hw.2.2
  obtain ⟨σ2, e2⟩ : ∃ s, s = τ.al 15 0 47 := ⟨_, rfl⟩
  have a1 : σ2.sz = τ.sz + 1 := by rw [e2]; rfl
  have a2 : σ2.kd τ.sz = 15 := by rw [e2]; exact up1_eq _ _ _
  have a3 : ∀ k, σ2.iv τ.sz k = 0 := fun k => by rw [e2]; exact congrFun (up1_eq τ.iv τ.sz (fun _ => 0)) k
  have a4 : ∀ a, τ.sz + 1 ≤ a → σ2.kd a = 0 := fun a ha => by
    have e : σ2.kd a = τ.kd a := by rw [e2]; exact if_neg (by omega)
    rw [e]
    exact Classical.byContradiction (fun q => by have := w3 a q; omega)
  have hM := mh_ok a1 a2 a3 a4 35
  obtain ⟨τ3, e3⟩ : ∃ s, s = mh σ2 τ.sz 35 := ⟨_, rfl⟩
  rw [← e3] at hM
  have hG := hM.gm
  obtain ⟨⟨b1, b2, b3⟩, b4, b5, b6, b7, b8⟩ := hM
  have z3 : τ3.sz = τ.sz + 36 := by omega
  have eh : hl5 τ = (τ3.al 21 1 1).al 22 1 1 := by unfold hl5; rw [e3, e2]
  obtain ⟨σ4, e4⟩ : ∃ s, s = τ3.al 21 1 1 := ⟨_, rfl⟩
  obtain ⟨σ5, e5⟩ : ∃ s, s = σ4.al 22 1 1 := ⟨_, rfl⟩
  have eh5 : hl5 τ = σ5 := by rw [eh, e5, e4]
  have z4 : σ4.sz = τ.sz + 37 := by rw [e4]; show τ3.sz + 1 = _; omega
  have k4 : ∀ a, a ≠ τ.sz + 36 → σ4.kd a = τ3.kd a ∧ σ4.ln a = τ3.ln a ∧ σ4.iv a = τ3.iv a ∧ σ4.rv a = τ3.rv a := fun a ha => by
    rw [e4]; exact ⟨if_neg (by omega), if_neg (by omega), if_neg (by omega), if_neg (by omega)⟩
  have k5 : ∀ a, a ≠ τ.sz + 37 → σ5.kd a = σ4.kd a ∧ σ5.ln a = σ4.ln a ∧ σ5.iv a = σ4.iv a ∧ σ5.rv a = σ4.rv a := fun a ha => by
    rw [e5]; exact ⟨if_neg (by omega), if_neg (by omega), if_neg (by omega), if_neg (by omega)⟩
  have k2 : ∀ a, a ≠ τ.sz → σ2.kd a = τ.kd a ∧ σ2.ln a = τ.ln a ∧ σ2.iv a = τ.iv a ∧ σ2.rv a = τ.rv a := fun a ha => by
    rw [e2]; exact ⟨if_neg ha, if_neg ha, if_neg ha, if_neg ha⟩
  have c2 : σ2.cl = τ.cl + 1 := by rw [e2]; rfl
  have s2 : σ2.sl = τ.sl + 47 := by rw [e2]; rfl
  have c5 : σ5.cl = τ3.cl + 2 := by rw [e5, e4]; rfl
  have s5 : σ5.sl = τ3.sl + 2 := by rw [e5, e4]; rfl
  have n4 : σ4.kd (τ.sz + 36) = 21 ∧ σ4.ln (τ.sz + 36) = 1 := by rw [e4]; exact ⟨if_pos (by omega), if_pos (by omega)⟩
  have n5 : σ5.kd (τ.sz + 37) = 22 ∧ σ5.ln (τ.sz + 37) = 1 := by rw [e5]; exact ⟨if_pos (by omega), if_pos (by omega)⟩
  have wf3 : WF X τ3 := ⟨w1, by omega, fun a ha => by
    by_cases q : a < τ.sz
    · have g := (b5 a q).1
      rw [g, (k2 a (by omega)).1] at ha
      have := w3 a ha
      omega
    · refine ⟨by omega, ?_⟩
      exact Classical.byContradiction (fun r => ha (b6 a (by omega)))⟩
  have wf5 : WF X σ5 := by rw [e5, e4]; exact wf_al (wf_al wf3)
  have hG5 : GM σ5 τ.sz ∧ Hm σ5 τ.sz v00 = σ5 := by
    rw [e5, e4]
    exact gm_al (gm_al hG (by omega)) (by show _ ≤ τ3.sz + 1; omega)
  have hC : CS X σ5 σ5 A c B := h.grow wf5 (fun a ha => by
    have q : a < τ.sz := (w3 a ha).2
    have g5 := k5 a (by omega)
    have g4 := k4 a (by omega)
    have g3 := b5 a q
    have g2 := k2 a (by omega)
    exact ⟨g5.1.trans (g4.1.trans (g3.1.trans g2.1)), g5.2.1.trans (g4.2.1.trans (g3.2.1.trans g2.2.1)), g5.2.2.1.trans (g4.2.2.1.trans (g3.2.2.1.trans g2.2.2.1)), g5.2.2.2.trans (g4.2.2.2.trans (g3.2.2.2.1.trans g2.2.2.2))⟩) (by show _ ≤ τ.cl + n; omega) (by show _ ≤ τ.sl + m; omega)
  rw [eh5]
  have g36 := k5 (τ.sz + 36) (by omega)
  exact ⟨hC, hG5, ⟨g36.1.trans n4.1, g36.2.1.trans n4.2⟩, n5⟩
theorem front_ev {X : Cx} {σ τ : Hp} {o : Rs} {τf : Hp} (hC : Ct X m_X10_init 7 [va_rf (some σ.sz)] (σ.al 14 0 12) (.inl none) τ) (hz : ∀ a, τ.sz ≤ a → τ.kd a = 0)
    (K : Ev X m_L_law 30 28 (lsL X σ.sz τ.sz (τ.sz + 36) (τ.sz + 37) 0) [] (hl5 τ) o τf) : Ev X m_L_law 30 0 (enL 8 [va_rf (some X.sb)]) [] σ o τf := by
  have a2 : (τ.al 15 0 47).kd τ.sz = 15 := up1_eq _ _ _
  have a3 : ∀ k, (τ.al 15 0 47).iv τ.sz k = 0 := fun k => congrFun (up1_eq τ.iv τ.sz (fun _ => 0)) k
  have a4 : ∀ a, τ.sz + 1 ≤ a → (τ.al 15 0 47).kd a = 0 := fun a ha => by
    have e : (τ.al 15 0 47).kd a = τ.kd a := if_neg (by omega)
    rw [e]
    exact hz a (by omega)
  have hM := mh_ok rfl a2 a3 a4 35
  have z3 : (mh (τ.al 15 0 47) τ.sz 35).sz = τ.sz + 36 := by have := hM.1.1; omega
  have z4 : ((mh (τ.al 15 0 47) τ.sz 35).al 21 1 1).sz = τ.sz + 37 := by show (mh (τ.al 15 0 47) τ.sz 35).sz + 1 = _; omega
  refine Ev.new (ci := 13) (N := 12) rfl (by decide) (tb1 (i := 37) rfl) (tb1 (i := 38) rfl) (tb1 (i := 1) rfl) dL_law_0 ?_
  refine Ev.dup dL_law_3 rfl ?_
  refine Ev.callI (As := []) k_X10_init rfl rfl (tb1 (i := 39) rfl) ki_X10_init dL_law_4 rfl rfl (Nat.le_of_ble_eq_true rfl) (by decide) hC ?_
  refine Ev.astore_n (i := 1) dL_law_7 rfl (by decide) ?_
  refine Ev.new (ci := 14) (N := 47) rfl (by decide) (tb6 (i := 204) rfl) (tb6 (i := 205) rfl) (tb1 (i := 11) rfl) dL_law_8 ?_
  refine Ev.dup dL_law_11 rfl ?_
  refine Ev.callI (As := []) k_X11_init rfl rfl (tb6 (i := 206) rfl) ki_X11_init dL_law_12 rfl rfl (Nat.le_of_ble_eq_true rfl) (by decide) (s_X11_init rfl a2 a3 a4) ?_
  refine Ev.astore_n (i := 2) dL_law_15 rfl (by decide) ?_
  refine Ev.iconst (v := i32 1) dL_law_16 (by decide) ?_
  refine Ev.newA (K := 21) (ti := 1) (n := i32 1) (j := 1) (by decide) (by decide) (by decide) (Or.inr (Or.inl rfl)) (tb8 (i := 156) rfl) dL_law_17 ?_
  refine Ev.astore_n (i := 3) dL_law_19 rfl (by decide) ?_
  refine Ev.iconst (v := i32 1) dL_law_20 (by decide) ?_
  refine Ev.newA (K := 22) (ti := 2) (n := i32 1) (j := 1) (by decide) (by decide) (by decide) (Or.inr (Or.inr (Or.inl rfl))) (tb8 (i := 157) rfl) dL_law_21 ?_
  refine Ev.astore (i := 4) dL_law_23 (by decide) ?_
  refine Ev.iconst (v := i32 0) dL_law_25 (by decide) ?_
  refine Ev.istore (i := 5) dL_law_26 (by decide) ?_
  rw [z3, z4]
  exact K
theorem law_all {X : Cx} {σ : Hp} (hN : KN X) (hs : X.sL ≤ 2048) (h1 : X.t0 < X.b0) (h2 : σ.sz = X.b0) (h3 : ∀ a, σ.kd a = 0) (h4 : σ.cl = 0) (h5 : σ.sl = 0) {n m : Nat} (hn : 38 ≤ n) (hn2 : n ≤ 500) (hm : 4600 ≤ m) (hm2 : m ≤ 10000) :
    ∃ τ, Ev X m_L_law 30 0 (enL 8 [va_rf (some X.sb)]) [] σ (.inl (some (.int (i32 1)))) τ ∧ τ.cl ≤ 20000 ∧ τ.sl ≤ 6200000 := by
  obtain ⟨τ1, A, B, hC, hS, e13⟩ := class_made (X := X) (σ := σ) (n := n) (m := m) hn2 hm2 h1 h2 h3 h4 h5
  have hL := front_lw hn hm hS
  have hw : ∀ a, τ1.kd a ≠ 0 → X.b0 ≤ a ∧ a < τ1.sz := hS.1.1.2.2
  have k6 : c00.1 6 = 0 := by decide
  have kx : c00.2.2.2 = 0 := by decide
  obtain ⟨τf, A', c', B', v', T', E', ⟨L, V, I, q6, qx⟩, hEv⟩ := law_loop hN hs 513 0 (hl5 τ1) A c00 B v00 40 0 hL inv00 v00_im (by decide) (by decide) (by omega) (by decide) (by decide) (by rw [k6]; decide) (by rw [kx]; decide)
  rw [e13] at hEv
  have r := room_ok L V I q6 qx
  refine ⟨τf, front_ev hC (fun a ha => Classical.byContradiction (fun q => by have := hw a q; omega)) hEv, r.1, r.2⟩
