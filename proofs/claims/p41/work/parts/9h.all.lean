/-! the law, all of it (written by wip/p41/mk9h.py) -/
theorem pa00 : PA 1 v00 := by
  refine ⟨⟨fun b b0 b1 => ?_, fun w w0 w1 => ?_, fun w _ => v00_0 (by decide), fun w h => ?_⟩, fun b b0 b1 => ?_, by decide⟩
  · rw [v00_0 (by decide)] at b1; omega
  · rw [v00_0 (by decide)] at w1; omega
  · rw [v00_0 (by decide)] at h; omega
  · rw [v00_0 (by decide)] at b1; omega
theorem pd00 : PD v00 := by
  refine ⟨fun e e0 e1 => ?_, fun e e0 e1 => ?_, fun o h => ?_, fun o o0 o1 => ?_, by decide⟩
  · rw [v00_0 (by decide)] at e1; omega
  · rw [v00_0 (by decide)] at e1; omega
  · rw [v00_0 (by decide)] at h; omega
  · rw [v00_0 (by decide)] at o1; omega
theorem li00 : LI v00 40 0 0 0 1 1 (fun _ => 0) (fun _ => 0) := by
  refine ⟨v00_im, pa00, pd00, ⟨by decide, by decide, by decide⟩, ⟨by decide, by decide, by decide, by decide⟩, fun j j0 j1 => absurd j1 (by omega), fun o o0 o1 => ?_⟩
  rw [v00_0 (by decide)] at o1
  omega
theorem q_all {X : Cx} {h un it : Nat} {re ve : Int} (hN : KN X) (hs : X.sL ≤ 2048) (h1 : 1 ≤ re ∧ re ≤ 4) (h2 : 1 ≤ ve ∧ ve ≤ 8) : Go X h 54 (lsH X h un it re ve 1 1 2 0) (v00, (0, 0), (16, 320), Rz un it (fun _ => 0) (fun _ => 0)) := by
  have e1 : (re.toNat : Int) = re := Int.toNat_of_nonneg (by omega)
  have e2 : (ve.toNat : Int) = ve := Int.toNat_of_nonneg (by omega)
  refine q_recipes hN hs h1 re.toNat 0 2 0 0 v00 li00 (Int.le_refl 0) (by omega) (by omega) (by omega) (fun v2 L2 => ?_)
  have K := q_vessels (h := h) (un := un) (it := it) (re := re) (ve := ve) (n := 16) (m := 320) hN hs h2 ve.toNat 0 (2 + 3 * (re.toNat : Int)) (0 + (re.toNat : Int)) (0 + (re.toNat : Int)) v2 (fun _ => 0) L2 (Int.le_refl 0) (by omega) (by omega) (by omega) (fun v3 tk3 L3 => by
    have K := q_loop (h := h) (un := un) (it := it) hN hs h1 h2 110 0 (2 + 3 * (re.toNat : Int) + (ve.toNat : Int)) (0 + (re.toNat : Int) + (ve.toNat : Int)) (0 + (re.toNat : Int) + (ve.toNat : Int)) v3 40 0 1 1 (fun _ => 0) 16 L3 (Int.le_refl 0) (by decide) (by omega) (by omega) (by decide) (by decide) (by omega) (by decide) (by omega)
    obtain ⟨w', q9, kk⟩ := K
    refine ⟨w', q9, ?_⟩
    unfold lsH
    refine Wi.const dL_law_199 ?_
    refine Wv.istore dL_law_200 (by decide) rfl ?_
    exact kk)
  obtain ⟨w', q9, kk⟩ := K
  refine ⟨w', q9, ?_⟩
  unfold lsH
  refine Wi.const dL_law_115 ?_
  refine Wv.istore dL_law_116 (by decide) rfl ?_
  exact kk
theorem sF_max {f : Int → Nat} {M : Nat} : ∀ n : Nat, (∀ i, 0 ≤ i → i < (n : Int) → f i ≤ M) → sF f n ≤ n * M := by
  intro n
  induction n with
  | zero => exact fun _ => Nat.zero_le _
  | succ n ih =>
    intro h
    have h1 := ih (fun i h0 h1 => h i h0 (by omega))
    have h2 := h (n : Int) (by omega) (by omega)
    show sF f n + f (n : Int) ≤ (n + 1) * M
    rw [Nat.succ_mul]
    omega
theorem room_ok {X : Cx} {h : Nat} {w : Wl} {σ : Hp} (hR : RW X h w σ) (hq : w.2.1.1 ≤ 1000 ∧ w.2.1.2 ≤ 130000 ∧ ∃ T E, IM w.1 T E) : σ.cl ≤ 1198993 ∧ σ.sl ≤ 5504488 := by
  obtain ⟨⟨A, c, B, ⟨hC, hF⟩, hV, -, h6, hx⟩, -⟩ := hR
  obtain ⟨q6, qx, T, E, hI⟩ := hq
  have h6 : c.1 6 ≤ 1000 := Int.le_trans h6 q6
  have hx : c.2.2.2 ≤ 130000 := Int.le_trans hx qx
  have ll := hC.2.2.2.2.2.1
  have rm := hC.2.2.2.2.2.2.2.2
  have s0 := hV.1.c0
  have b10 := slots_le hV hI
  have u1 : 0 ≤ w.1 1 0 ∧ w.1 1 0 ≤ 5 := hI.2 1 0
  have u2 : 0 ≤ w.1 2 0 ∧ w.1 2 0 ≤ 8 := hI.2 2 0
  have u4 : 0 ≤ w.1 4 0 ∧ w.1 4 0 ≤ 60 := hI.2 4 0
  have u5 : 0 ≤ w.1 5 0 ∧ w.1 5 0 ≤ 30 := hI.2 5 0
  have u6 : 0 ≤ w.1 6 0 ∧ w.1 6 0 ≤ 20 := hI.2 6 0
  have u9 : 0 ≤ w.1 9 0 ∧ w.1 9 0 ≤ 127 := hI.2 9 0
  have k2 : c.1 2 = 17 + w.1 6 0 := s0.1.2.2.2.2.2
  have cp : ∀ i, 0 ≤ i → i < ((c.1 2).toNat : Int) → cap X (σ.up w.2.2.1.1 w.2.2.1.2) (B i) ≤ 300 := fun i i0 i1 => by
    unfold cap
    split
    · exact Nat.zero_le _
    · rename_i hne
      rcases (ll i i0 (by omega)).1.2.2.2.2.2 with e | e
      · exact absurd e.1 hne
      · exact e.2.2.2.1
  have m1 := sF_max (f := fun l => cap X (σ.up w.2.2.1.1 w.2.2.1.2) (B l)) (c.1 2).toNat cp
  have m2 := sF_max (f := fun l => cap X (σ.up w.2.2.1.1 w.2.2.1.2) (B l) * cap X (σ.up w.2.2.1.1 w.2.2.1.2) (B l)) (M := 90000) (c.1 2).toNat (fun i i0 i1 => Nat.mul_le_mul (cp i i0 i1) (cp i i0 i1))
  have n37 : (c.1 2).toNat ≤ 37 := by omega
  have m1' : sF (fun l => cap X (σ.up w.2.2.1.1 w.2.2.1.2) (B l)) (c.1 2).toNat ≤ 11100 := Nat.le_trans m1 (Nat.le_trans (Nat.mul_le_mul n37 (Nat.le_refl 300)) (by decide))
  have m2' : sF (fun l => cap X (σ.up w.2.2.1.1 w.2.2.1.2) (B l) * cap X (σ.up w.2.2.1.1 w.2.2.1.2) (B l)) (c.1 2).toNat ≤ 3330000 := Nat.le_trans m2 (Nat.le_trans (Nat.mul_le_mul n37 (Nat.le_refl 90000)) (by decide))
  obtain ⟨r1, r2, r3⟩ := rm
  have r2 : ((σ.cl + w.2.2.1.1 : Nat) : Int) ≤ _ := r2
  have r3 : ((σ.sl + w.2.2.1.2 : Nat) : Int) ≤ _ := r3
  have q1 := s0.1.1
  have q2 := s0.1.2.1
  have q3 := s0.1.2.2.1
  have q4 := s0.1.2.2.2.1
  have q5 := s0.1.2.2.2.2.1
  have q7 := s0.2.1.2.1.2
  have f13 := hF.1.2.1
  have f8 := hF.1.2.2.1
  have f12 := hF.1.2.2.2.1
  have hs : sN c ≤ 1400 := by
    unfold sN
    omega
  constructor
  · omega
  · omega
theorem law_all {X : Cx} {σ : Hp} (hN : KN X) (hs : X.sL ≤ 2048) (h1 : X.t0 < X.b0) (h2 : σ.sz = X.b0) (h3 : ∀ a, σ.kd a = 0) (h4 : σ.cl = 0) (h5 : σ.sl = 0) :
    ∃ τ, Lv X m_L_law 40 0 (enL 22 [va_rf (some X.sb)]) [] σ (.inl (some (.int (i32 1)))) τ ∧ τ.cl ≤ 1198993 ∧ τ.sl ≤ 5504488 := by
  obtain ⟨τ1, A, B, hC, hS, e13⟩ := class_made (X := X) (σ := σ) (n := 18) (m := 348) (by decide) (by decide) h1 h2 h3 h4 h5
  have hS2 : CS X (τ1.up 18 348) (τ1.up 18 348) A c00 B := hS.fg rfl rfl rfl (fun _ _ => rfl) rfl rfl rfl
  have R1 : RW X σ.sz (v00, (0, 0), (18, 348), []) τ1 := ⟨⟨A, c00, B, hS2, inv00, e13, by decide, by decide⟩, fun r hr => (by cases hr), List.Pairwise.nil⟩
  have p1 := pkv_r (X := X) (k := 0) (n := 4) (by omega)
  have p2 := pkv_r (X := X) (k := 1) (n := 7) (by omega)
  obtain ⟨τ2, C2, R2⟩ := a_pick (h := σ.sz) (w := (v00, (0, 0), (18, 348), [])) (k := 0) (n := 4) hs ⟨by omega, by omega⟩ ⟨by omega, by omega⟩ τ1 R1
  obtain ⟨τ3, C3, R3⟩ := a_pick (h := σ.sz) (w := (v00, (0, 0), (18, 348), [])) (k := 1) (n := 7) hs ⟨by omega, by omega⟩ ⟨by omega, by omega⟩ τ2 R2
  have R4 : RW X σ.sz (v00, (0, 0), (17, 340), [(τ3.sz, 23, 8, fun _ => 0)]) (τ3.al 23 8 8) := RW.al (n := 17) (m := 340) (len := 8) R3 (Or.inr rfl)
  have R5 : RW X σ.sz (v00, (0, 0), (16, 320), Rz (τ3.al 23 8 8).sz τ3.sz (fun _ => 0) (fun _ => 0)) ((τ3.al 23 8 8).al 20 20 20) := RW.al (n := 16) (m := 320) (len := 20) R4 (Or.inl rfl)
  obtain ⟨w', q9, kk⟩ := q_all (h := σ.sz) (un := (τ3.al 23 8 8).sz) (it := τ3.sz) (re := 1 + pkv X 0 4) (ve := 2 + pkv X 1 7) hN hs ⟨by omega, by omega⟩ ⟨by omega, by omega⟩
  obtain ⟨τf, Lf, Rf⟩ := kk _ R5
  refine ⟨τf, ?_, room_ok Rf q9⟩
  unfold lsH at Lf
  refine Lv.new (ci := 13) (N := 12) rfl (by decide) (tb1 (i := 36) rfl) (tb1 (i := 37) rfl) (tb1 (i := 1) rfl) dL_law_0 ?_
  refine Lv.dup dL_law_3 rfl ?_
  refine Lv.callI (As := []) k_X10_init rfl rfl (tb1 (i := 38) rfl) ki_X10_init dL_law_4 rfl rfl (Nat.le_of_ble_eq_true rfl) (by decide) hC ?_
  refine Lv.astore_n (i := 1) dL_law_7 rfl (by decide) rfl ?_
  refine Li.const dL_law_8 ?_
  refine Lv.aload_n (i := 0) dL_law_9 rfl rfl ?_
  refine Li.const dL_law_10 ?_
  refine Li.const dL_law_11 ?_
  refine Lv.callS (As := [_, _, _]) (v := some _) k_L_pick (tb2 (i := 2) rfl) ki_L_pick dL_law_12 rfl rfl (Nat.le_of_ble_eq_true rfl) (Nat.le_of_ble_eq_true rfl) C2 ?_
  refine Li.add dL_law_15 ?_
  refine Lv.istore_n (i := 2) dL_law_16 rfl (by decide) rfl ?_
  refine Li.const dL_law_17 ?_
  refine Lv.aload_n (i := 0) dL_law_18 rfl rfl ?_
  refine Li.const dL_law_19 ?_
  refine Lv.bipush (v := i32 7) dL_law_20 (by decide) ?_
  refine Lv.callS (As := [_, _, _]) (v := some _) k_L_pick (tb2 (i := 2) rfl) ki_L_pick dL_law_22 rfl rfl (Nat.le_of_ble_eq_true rfl) (Nat.le_of_ble_eq_true rfl) C3 ?_
  refine Li.add dL_law_25 ?_
  refine Lv.istore_n (i := 3) dL_law_26 rfl (by decide) rfl ?_
  refine Li.const dL_law_27 ?_
  refine Lv.istore dL_law_28 (by decide) rfl ?_
  refine Li.const dL_law_30 ?_
  refine Lv.istore dL_law_31 (by decide) rfl ?_
  refine Li.const dL_law_33 ?_
  refine Lv.istore dL_law_34 (by decide) rfl ?_
  refine Lv.bipush (v := i32 8) dL_law_36 (by decide) ?_
  refine Lv.newA (K := 23) (ti := 3) (n := i32 8) (j := 8) (by decide) (by decide) (by decide) (Or.inr rfl) (tb6 (i := 212) rfl) dL_law_38 ?_
  refine Lv.astore dL_law_40 (by decide) rfl ?_
  refine Lv.bipush (v := i32 20) dL_law_42 (by decide) ?_
  refine Lv.newA (K := 20) (ti := 0) (n := i32 20) (j := 20) (by decide) (by decide) (by decide) (Or.inl rfl) (tb6 (i := 210) rfl) dL_law_44 ?_
  refine Lv.astore dL_law_46 (by decide) rfl ?_
  refine Li.const dL_law_48 ?_
  refine Lv.istore dL_law_49 (by decide) rfl ?_
  refine Li.const dL_law_51 ?_
  refine Lv.istore dL_law_52 (by decide) rfl ?_
  exact Lf
