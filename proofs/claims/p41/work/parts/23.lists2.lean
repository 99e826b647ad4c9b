/-! ArrayList: growth, adding, taking out (written by wip/whole/mk22.py) -/
theorem Er.alen0 {X : Cx} {σ : Hp} {M : Mt} {d pc : Nat} {ls : List (Option Value)} {rest : List Value} {o : Rs} {τ : Hp} (d9 : decode M.cc pc = .ok (.arraylength, 1)) (k : Ev X M d (pc + 1) ls (.int (i32 0) :: rest) σ o τ) : Ev X M d pc ls (va_rf (some X.t0) :: rest) σ o τ := Ev.alen0 d9 k
theorem shr1' {n : Nat} (h : n ≤ 300) : i32 (n : Int) >>> (i32 1 &&& 31) = i32 ((n / 2 : Nat) : Int) := by
  have key : ∀ k : Fin 401, i32 ((k : Nat) : Int) >>> (i32 1 &&& 31) = i32 (((k : Nat) / 2 : Nat) : Int) := by decide +kernel
  exact key ⟨n, by omega⟩
theorem row_same {σ : Hp} {K j : Nat} : (σ.al K j j).row σ.sz (fun _ => none) = σ.al K j j := by
  have e : up1 (σ.al K j j).rv σ.sz (fun _ => none) = (σ.al K j j).rv := by
    funext a
    show (if a = σ.sz then _ else (if a = σ.sz then _ else _)) = (if a = σ.sz then _ else _)
    split <;> rfl
  show (_, _, _, up1 (σ.al K j j).rv σ.sz (fun _ => none), _) = _
  rw [e]
  rfl
theorem Fr.trans {X : Cx} {σ σ1 σ2 : Hp} {l B B1 B2 : Nat} (hW : WF X σ) (h : Fr X σ σ1 l B B1) (g : Fr X σ1 σ2 l B1 B2) : Fr X σ σ2 l B B2 := by
  obtain ⟨a1, a2, a3, a4, a5, a6, a7, a8⟩ := h
  obtain ⟨b1, b2, b3, b4, b5, b6, b7, b8⟩ := g
  refine ⟨fun a ha => ?_, fun a ha hl hB => ?_, ?_, by omega, b5, by omega, by omega, by omega⟩
  · have g1 := a1 a ha
    have g2 := b1 a (by rw [g1.1]; exact ha)
    exact ⟨g2.1.trans g1.1, g2.2.trans g1.2⟩
  · have g1 := a2 a ha hl hB
    have g2 := b2 a (by rw [(a1 a ha).1]; exact ha) hl (fun e => by
      rcases a3 with e3 | e3
      · exact hB (e.trans e3)
      · have := (hW.2.2 a ha).2
        omega)
    exact ⟨g2.1.trans g1.1, g2.2.1.trans g1.2.1, g2.2.2.1.trans g1.2.2.1, g2.2.2.2.trans g1.2.2.2⟩
  · rcases b3 with e | e
    · rcases a3 with e3 | e3
      · exact Or.inl (e.trans e3)
      · exact Or.inr ⟨by omega, by omega, by rw [e, (b1 B1 (by omega)).1]; exact e3.2.2⟩
    · exact Or.inr ⟨by omega, e.2.1, e.2.2⟩
theorem LL.mod {X : Cx} {σ : Hp} {l B : Nat} {xs : List Nat} {m : Int32} (hL : LL X σ l B xs) : LL X (σ.setI l 0 m) l B xs := by
  obtain ⟨h1, h2, h3, h4, h5, h6⟩ := hL
  exact ⟨h1, h2, (if_neg (fun h => absurd h.2 (by decide))).trans h3, h4, h5, h6⟩
theorem Fr.mod {X : Cx} {σ : Hp} {l B k : Nat} {m : Int32} (hW : WF X σ) : Fr X σ (σ.setI l k m) l B B := ⟨fun _ _ => ⟨rfl, rfl⟩, fun a _ hl _ => ⟨by
    funext j
    show (if a = l ∧ j = k then _ else _) = _
    rw [if_neg (fun h => hl h.1)], rfl, rfl, rfl⟩, Or.inl rfl, Nat.le_refl _, hW, Nat.le_refl _, Nat.le_refl _, Nat.le_refl _⟩
/-- a new array in the place of the old one -/
theorem grow_post {X : Cx} {σ : Hp} {l B j : Nat} {xs : List Nat} {f : Nat → Option Nat} (hW : WF X σ) (hL : LL X σ l B xs) (hj : xs.length < j) (hj4 : j ≤ 300) (hc : cap X σ B = xs.length) (hf : ∀ i x, xs[i]? = some x → f i = some x) (hv : ∀ i y, i < j → f i = some y → 3 ≤ σ.kd y ∧ σ.kd y ≤ 14) :
    LL X (((σ.al 24 j j).row σ.sz f).setR l 1 (some σ.sz)) l σ.sz xs ∧ (((σ.al 24 j j).row σ.sz f).setR l 1 (some σ.sz)).kd σ.sz = 24 ∧ xs.length < (((σ.al 24 j j).row σ.sz f).setR l 1 (some σ.sz)).ln σ.sz ∧ Fr X σ (((σ.al 24 j j).row σ.sz f).setR l 1 (some σ.sz)) l B σ.sz := by
  obtain ⟨h1, h2, h3, h4, h5, h6⟩ := hL
  have hlz : ¬ l = σ.sz := fun e => by have := (hW.2.2 l (by omega)).2; omega
  have hne : ∀ a, σ.kd a ≠ 0 → ¬ a = σ.sz := fun a ha e => by have := (hW.2.2 a ha).2; omega
  have k1 : ∀ a, ¬ a = σ.sz → (((σ.al 24 j j).row σ.sz f).setR l 1 (some σ.sz)).kd a = σ.kd a := fun a ha => up1_ne _ _ ha
  have k2 : (((σ.al 24 j j).row σ.sz f).setR l 1 (some σ.sz)).kd σ.sz = 24 := up1_eq _ _ _
  have l1 : ∀ a, ¬ a = σ.sz → (((σ.al 24 j j).row σ.sz f).setR l 1 (some σ.sz)).ln a = σ.ln a := fun a ha => up1_ne _ _ ha
  have l2 : (((σ.al 24 j j).row σ.sz f).setR l 1 (some σ.sz)).ln σ.sz = j := up1_eq _ _ _
  have r1 : (((σ.al 24 j j).row σ.sz f).setR l 1 (some σ.sz)).rv l 1 = some σ.sz := up2_eq _ _ _ _
  have r2 : ∀ i, (((σ.al 24 j j).row σ.sz f).setR l 1 (some σ.sz)).rv σ.sz i = f i := fun i => by
    show (if σ.sz = l ∧ i = 1 then _ else (if σ.sz = σ.sz then f else _) i) = _
    rw [if_neg (fun h => hlz h.1.symm), if_pos rfl]
  have r3 : ∀ a, ¬ a = σ.sz → ¬ a = l → (((σ.al 24 j j).row σ.sz f).setR l 1 (some σ.sz)).rv a = σ.rv a := fun a ha hl => by
    funext i
    show (if a = l ∧ i = 1 then _ else (if a = σ.sz then f else (if a = σ.sz then _ else σ.rv a)) i) = _
    rw [if_neg (fun h => hl h.1), if_neg ha, if_neg ha]
  have i1 : ∀ a, ¬ a = σ.sz → (((σ.al 24 j j).row σ.sz f).setR l 1 (some σ.sz)).iv a = σ.iv a := fun a ha => up1_ne _ _ ha
  have v1 : ∀ a, ¬ a = σ.sz → (((σ.al 24 j j).row σ.sz f).setR l 1 (some σ.sz)).lv a = σ.lv a := fun a ha => up1_ne _ _ ha
  have d1 : ∀ a, ¬ a = σ.sz → (((σ.al 24 j j).row σ.sz f).setR l 1 (some σ.sz)).dv a = σ.dv a := fun a ha => up1_ne _ _ ha
  have s1 : (((σ.al 24 j j).row σ.sz f).setR l 1 (some σ.sz)).sz = σ.sz + 1 := rfl
  have c1 : (((σ.al 24 j j).row σ.sz f).setR l 1 (some σ.sz)).cl = σ.cl + 1 := rfl
  have c2 : (((σ.al 24 j j).row σ.sz f).setR l 1 (some σ.sz)).sl = σ.sl + j := rfl
  revert k1 k2 l1 l2 r1 r2 r3 i1 v1 d1 s1 c1 c2
  generalize ((σ.al 24 j j).row σ.sz f).setR l 1 (some σ.sz) = τ
  intro k1 k2 l1 l2 r1 r2 r3 i1 v1 d1 s1 c1 c2
  have hW' : WF X τ := hW.of (fun a ha => by
    by_cases e : a = σ.sz
    · exact Or.inr ⟨by omega, by omega⟩
    · rw [k1 a e] at ha
      exact Or.inl ha) (by omega)
  have cp : cap X τ σ.sz = j := (cap_24 hW' k2).trans l2
  refine ⟨⟨(k1 l hlz).trans h1, r1, by rw [i1 l hlz]; exact h3, h4, fun i x hx => (r2 i).trans (hf i x hx), Or.inr ⟨k2, by omega, by omega, by omega, fun i y hi hy => ?_⟩⟩, k2, by omega, ⟨fun a ha => ⟨k1 a (hne a ha), l1 a (hne a ha)⟩, fun a ha hl hB => ⟨i1 a (hne a ha), r3 a (hne a ha) hl, v1 a (hne a ha), d1 a (hne a ha)⟩, Or.inr ⟨Nat.le_refl _, by omega, k2⟩, by omega, hW', by omega, ?_, by omega⟩⟩
  · rw [r2] at hy
    have g := hv i y (by omega) hy
    rw [k1 y (fun e => by have := hW.kd0; rw [e] at g; omega)]
    exact g
  · rw [cp, hc, c2]
    have : xs.length * xs.length + j ≤ j * j := by
      have h9 : xs.length * xs.length + xs.length ≤ xs.length * j := by
        have := Nat.mul_le_mul_left xs.length (show xs.length + 1 ≤ j by omega)
        rw [Nat.mul_add, Nat.mul_one] at this
        exact this
      have h10 := Nat.mul_le_mul_right j (show xs.length + 1 ≤ j by omega)
      rw [Nat.add_mul, Nat.one_mul] at h10
      omega
    omega
theorem s_grow1 {X : Cx} {σ : Hp} {l B : Nat} {xs : List Nat} (hW : WF X σ) (hL : LL X σ l B xs) (hc9 : cap X σ B = xs.length) (h199 : xs.length ≤ 199) : ∃ τ, Ct X m_Jx4a65c_grow_92f84 3 [va_rf (some l), .int (i32 ((xs.length : Int) + 1))] σ (.inl (some (va_rf (some σ.sz)))) τ ∧ LL X τ l σ.sz xs ∧ τ.kd σ.sz = 24 ∧ xs.length < τ.ln σ.sz ∧ Fr X σ τ l B σ.sz := by
  have hL9 := hL
  obtain ⟨h1, h2, h3, h4, h5, h6⟩ := hL
  have hlz : ¬ l = σ.sz := fun e => by have := (hW.2.2 l (by omega)).2; omega
  rcases h6 with ⟨e1, e2⟩ | h6
  · subst e1 e2
    refine ⟨((σ.al 24 10 10).row σ.sz (fun _ => none)).setR l 1 (some σ.sz), ?_, grow_post hW hL9 (by decide) (by decide) hc9 (fun i x hx => by simp at hx) (fun i y _ hy => by cases hy)⟩
    rw [row_same]
    refine Ct.of (by decide +kernel) rfl (Nat.le_of_ble_eq_true rfl) (by simp [Value.category, va_rf]) ?_
    refine Ev.aload_n (i := 0) dJx4a65c_grow_92f84_0 rfl rfl ?_
    refine Er.gR (ci := 2) (k := 1) (some X.t0) h2 rfl (by decide) (by decide) (tb1 (i := 58) rfl) (Or.inl rfl) rfl h1 dJx4a65c_grow_92f84_1 ?_
    refine Er.alen0 dJx4a65c_grow_92f84_4 ?_
    refine Ev.istore_n (i := 2) dJx4a65c_grow_92f84_5 rfl (by decide) ?_
    refine Ev.iload_n (i := 2) dJx4a65c_grow_92f84_6 rfl rfl ?_
    refine Ei.if_gt_f (tgt := 20) dJx4a65c_grow_92f84_7 (by decide) ⟨by omega, by omega⟩ (by omega) ?_
    refine Ev.aload_n (i := 0) dJx4a65c_grow_92f84_10 rfl rfl ?_
    refine Er.gR (ci := 2) (k := 1) (some X.t0) h2 rfl (by decide) (by decide) (tb1 (i := 58) rfl) (Or.inl rfl) rfl h1 dJx4a65c_grow_92f84_11 ?_
    refine Ev.getsE (tb1 (i := 56) rfl) dJx4a65c_grow_92f84_14 ?_
    refine Ev.acmp_eq_t (tgt := 45) dJx4a65c_grow_92f84_17 (by decide) rfl ?_
    refine Ev.aload_n (i := 0) dJx4a65c_grow_92f84_45 rfl rfl ?_
    refine Ev.bipush (v := i32 10) dJx4a65c_grow_92f84_46 (by decide) ?_
    refine Ev.iload_n (i := 1) dJx4a65c_grow_92f84_48 rfl rfl ?_
    refine Er.max ⟨by omega, by omega⟩ ⟨by omega, by omega⟩ (tb1 (i := 182) rfl) (by decide) (by simp [Value.category, va_rf]) dJx4a65c_grow_92f84_49 ?_
    rw [show (if (10 : Int) < ((([] : List Nat).length : Int) + 1) then ((([] : List Nat).length : Int) + 1) else 10) = 10 from rfl]
    refine Ev.anewA (n := i32 10) (j := 10) (by decide) rfl (by decide) (tb1 (i := 183) rfl) dJx4a65c_grow_92f84_52 ?_
    refine Ev.dup_x1 dJx4a65c_grow_92f84_55 rfl rfl ?_
    refine Ev.pR (ci := 2) (k := 1) rfl (by decide) (by decide) (tb1 (i := 58) rfl) (Or.inl rfl) (Or.inl rfl) rfl ((up1_ne _ _ hlz).trans h1) dJx4a65c_grow_92f84_56 ?_
    exact Ev.aretE rfl rfl dJx4a65c_grow_92f84_59 rfl rfl
  · have hc : σ.ln B = xs.length := by
      rw [cap_24 hW h6.1] at hc9
      exact hc9
    have hBz : ¬ B = σ.sz := fun e => by have := (hW.2.2 B (by omega)).2; omega
    have hs : xs.length < xs.length + (if xs.length / 2 ≤ 1 then 1 else xs.length / 2) := by split <;> omega
    have hf : ∀ i x, xs[i]? = some x → va_cpy ((σ.al 24 (xs.length + (if xs.length / 2 ≤ 1 then 1 else xs.length / 2)) (xs.length + (if xs.length / 2 ≤ 1 then 1 else xs.length / 2))).rv B) ((σ.al 24 (xs.length + (if xs.length / 2 ≤ 1 then 1 else xs.length / 2)) (xs.length + (if xs.length / 2 ≤ 1 then 1 else xs.length / 2))).rv σ.sz) 0 0 xs.length i = some x := by
      intro i x hx
      have hi := (List.getElem?_eq_some_iff.mp hx).1
      unfold va_cpy
      rw [if_pos ⟨Nat.zero_le _, by omega⟩, show 0 + (i - 0) = i by omega]
      exact (congrFun (up1_ne _ _ hBz) i).trans (h5 i x hx)
    have hv : ∀ i y, i < xs.length + (if xs.length / 2 ≤ 1 then 1 else xs.length / 2) → va_cpy ((σ.al 24 (xs.length + (if xs.length / 2 ≤ 1 then 1 else xs.length / 2)) (xs.length + (if xs.length / 2 ≤ 1 then 1 else xs.length / 2))).rv B) ((σ.al 24 (xs.length + (if xs.length / 2 ≤ 1 then 1 else xs.length / 2)) (xs.length + (if xs.length / 2 ≤ 1 then 1 else xs.length / 2))).rv σ.sz) 0 0 xs.length i = some y → 3 ≤ σ.kd y ∧ σ.kd y ≤ 14 := by
      intro i y hi hy
      unfold va_cpy at hy
      by_cases c : 0 ≤ i ∧ i < 0 + xs.length
      · rw [if_pos c, show 0 + (i - 0) = i by omega] at hy
        exact h6.2.2.2.2 i y (by omega) ((congrFun (up1_ne _ _ hBz) i).symm.trans hy)
      · rw [if_neg c] at hy
        exact absurd ((congrFun (up1_eq _ _ _) i).symm.trans hy) (by simp)
    refine ⟨_, ?_, grow_post hW hL9 hs (by split <;> omega) hc9 hf hv⟩
    refine Ct.of (by decide +kernel) rfl (Nat.le_of_ble_eq_true rfl) (by simp [Value.category, va_rf]) ?_
    refine Ev.aload_n (i := 0) dJx4a65c_grow_92f84_0 rfl rfl ?_
    refine Er.gR (ci := 2) (k := 1) (some B) h2 rfl (by decide) (by decide) (tb1 (i := 58) rfl) (Or.inl rfl) rfl h1 dJx4a65c_grow_92f84_1 ?_
    refine Er.alen h6.1 (by omega) dJx4a65c_grow_92f84_4 ?_
    refine Ev.istore_n (i := 2) dJx4a65c_grow_92f84_5 rfl (by decide) ?_
    refine Ev.iload_n (i := 2) dJx4a65c_grow_92f84_6 rfl rfl ?_
    refine Ei.if_gt_t (tgt := 20) dJx4a65c_grow_92f84_7 (by decide) ⟨by omega, by omega⟩ (by omega) ?_
    refine Ev.iload_n (i := 2) dJx4a65c_grow_92f84_20 rfl rfl ?_
    refine Ev.iload_n (i := 1) dJx4a65c_grow_92f84_21 rfl rfl ?_
    refine Ev.iload_n (i := 2) dJx4a65c_grow_92f84_22 rfl rfl ?_
    refine Ei.sub dJx4a65c_grow_92f84_23 ?_
    refine Ev.iload_n (i := 2) dJx4a65c_grow_92f84_24 rfl rfl ?_
    refine Ei.const dJx4a65c_grow_92f84_25 ?_
    refine Ev.ishr dJx4a65c_grow_92f84_26 ?_
    rw [shr1' (by omega)]
    refine Ev.cs1 (As := [_, _, _]) k_J8_newLength_cabcc (tb1 (i := 134) rfl) ki_J8_newLength_cabcc dJx4a65c_grow_92f84_27 rfl rfl (Nat.le_of_ble_eq_true rfl) (by decide) (s_newLength (a := (σ.ln B : Nat)) (b := (xs.length : Int) + 1 - (σ.ln B : Nat)) (c := ((σ.ln B / 2 : Nat) : Int)) (by omega) (by omega) (by omega)) ?_
    rw [show ((σ.ln B : Nat) : Int) + (if (xs.length : Int) + 1 - (σ.ln B : Nat) < ((σ.ln B / 2 : Nat) : Int) then ((σ.ln B / 2 : Nat) : Int) else (xs.length : Int) + 1 - (σ.ln B : Nat)) = ((xs.length + (if xs.length / 2 ≤ 1 then 1 else xs.length / 2) : Nat) : Int) by rw [hc]; split <;> split <;> omega]
    refine Ev.istore_n (i := 3) dJx4a65c_grow_92f84_30 rfl (by decide) ?_
    refine Ev.aload_n (i := 0) dJx4a65c_grow_92f84_31 rfl rfl ?_
    refine Ev.aload_n (i := 0) dJx4a65c_grow_92f84_32 rfl rfl ?_
    refine Er.gR (ci := 2) (k := 1) (some B) h2 rfl (by decide) (by decide) (tb1 (i := 58) rfl) (Or.inl rfl) rfl h1 dJx4a65c_grow_92f84_33 ?_
    refine Ev.iload_n (i := 3) dJx4a65c_grow_92f84_36 rfl rfl ?_
    refine Ev.cs1 (As := [_, _]) k_J7_copyOf_1904c (tb1 (i := 144) rfl) ki_J7_copyOf_1904c dJx4a65c_grow_92f84_37 rfl rfl (Nat.le_of_ble_eq_true rfl) (by decide) (s_copyOf2 (B := B) (n := xs.length) (j := xs.length + (if xs.length / 2 ≤ 1 then 1 else xs.length / 2)) hW h6.1 hc (by omega) (by split <;> omega) (fun i y hi hy => h6.2.2.2.2 i y (by omega) hy)) ?_
    refine Ev.dup_x1 dJx4a65c_grow_92f84_40 rfl rfl ?_
    refine Ev.pR (ci := 2) (k := 1) rfl (by decide) (by decide) (tb1 (i := 58) rfl) (Or.inl rfl) (Or.inl rfl) rfl ((up1_ne _ _ hlz).trans h1) dJx4a65c_grow_92f84_41 ?_
    exact Ev.aretE rfl rfl dJx4a65c_grow_92f84_44 rfl rfl
theorem s_grow0 {X : Cx} {σ : Hp} {l B : Nat} {xs : List Nat} (hW : WF X σ) (hL : LL X σ l B xs) (hc9 : cap X σ B = xs.length) (h199 : xs.length ≤ 199) : ∃ τ, Ct X m_Jx4a65c_grow_d5877 4 [va_rf (some l)] σ (.inl (some (va_rf (some σ.sz)))) τ ∧ LL X τ l σ.sz xs ∧ τ.kd σ.sz = 24 ∧ xs.length < τ.ln σ.sz ∧ Fr X σ τ l B σ.sz := by
  obtain ⟨τ, hC, hP⟩ := s_grow1 hW hL hc9 h199
  obtain ⟨h1, h2, h3, h4, h5, h6⟩ := hL
  refine ⟨τ, ?_, hP⟩
  refine Ct.of (by decide +kernel) rfl (Nat.le_of_ble_eq_true rfl) (by simp [Value.category, va_rf]) ?_
  refine Ev.aload_n (i := 0) dJx4a65c_grow_d5877_0 rfl rfl ?_
  refine Ev.aload_n (i := 0) dJx4a65c_grow_d5877_1 rfl rfl ?_
  refine Er.gI (ci := 2) (k := 2) (i32 (xs.length : Int)) h3 rfl (by decide) (by decide) (tb1 (i := 59) rfl) (Or.inl rfl) rfl h1 dJx4a65c_grow_d5877_2 ?_
  refine Ei.const dJx4a65c_grow_d5877_5 ?_
  refine Ei.add dJx4a65c_grow_d5877_6 ?_
  refine Ev.callV (ci := 2) (As := [_]) k_Jx4a65c_grow_92f84 rfl h1 (tb1 (i := 130) rfl) ki_Jx4a65c_grow_92f84 kv_Jx4a65c_grow_92f84 dJx4a65c_grow_d5877_7 rfl rfl (Nat.le_of_ble_eq_true rfl) (by decide) hC ?_
  exact Ev.aretE rfl rfl dJx4a65c_grow_d5877_10 rfl rfl
