/-! the law: draws from the script (written by wip/p41/mk9b.py) -/
def m_L_cell : Mt := (yL_cell, cL_cell, 2, some .int, [])
theorem k_L_cell : cokD m_L_cell 2 := ⟨rfl, (tb2 (i := 7) rfl), (tb1 (i := 0) rfl), by decide, by decide +kernel, by decide⟩
theorem ki_L_cell : Cond.static m_L_cell.y ∈ lw_tbl := (tb2 (i := 6) rfl)
def m_L_pick : Mt := (yL_pick, cL_pick, 3, some .int, [])
theorem k_L_pick : cokD m_L_pick 3 := ⟨rfl, (tb2 (i := 4) rfl), (tb1 (i := 0) rfl), by decide, by decide +kernel, by decide⟩
theorem ki_L_pick : Cond.static m_L_pick.y ∈ lw_tbl := (tb2 (i := 3) rfl)
theorem ofNat_i32 (n : Nat) : Int32.ofNat n = i32 (n : Int) := by
  unfold i32
  first | rfl | (rw [Int32.ofInt_eq_ofNat]) | simp
def cellv (X : Cx) (k : Int) : Int32 := if k < X.sL then X.xs (i32 k).toNatClampNeg else i32 (40503 * k)
def pkv (X : Cx) (k n : Int) : Int := hlf (cellv X k) % n
theorem pkv_r {X : Cx} {k n : Int} (h : 0 < n) : 0 ≤ pkv X k n ∧ pkv X k n < n := ⟨Int.emod_nonneg _ (by omega), Int.emod_lt_of_pos _ h⟩
theorem a_cell {X : Cx} {h : Nat} {w : Wl} {k : Int} (hs : X.sL ≤ 2048) (hk : 0 ≤ k ∧ k ≤ 5000) : Kl X h m_L_cell 3 [va_rf (some X.sb), .int (i32 k)] w (.inl (some (.int (cellv X k)))) w := by
  refine Kl.of (by decide +kernel) rfl (Nat.le_of_ble_eq_true rfl) (by simp [Value.category, va_rf]) ?_
  show Wv X h m_L_cell 3 0 [some (va_rf (some X.sb)), some (.int (i32 k))] [] w _ w
  refine Wv.iload_n (i := 1) dL_cell_0 rfl rfl ?_
  refine Wv.aload_n (i := 0) dL_cell_1 rfl rfl ?_
  refine Wv.slen dL_cell_2 ?_
  rw [ofNat_i32]
  unfold cellv
  by_cases c : k < X.sL
  · rw [if_pos c]
    refine Wi.icmp_ge_f (tgt := 12) dL_cell_3 (by decide) ⟨by omega, by omega⟩ ⟨by omega, by omega⟩ (by omega) ?_
    refine Wv.aload_n (i := 0) dL_cell_6 rfl rfl ?_
    refine Wv.iload_n (i := 1) dL_cell_7 rfl rfl ?_
    refine Wv.sld (i32_vin hk.1 c (by omega)) dL_cell_8 ?_
    refine Wv.goto (tgt := 16) dL_cell_9 (by decide) ?_
    exact Wv.iret rfl rfl dL_cell_16
  · rw [if_neg c]
    refine Wi.icmp_ge_t (tgt := 12) dL_cell_3 (by decide) ⟨by omega, by omega⟩ ⟨by omega, by omega⟩ (by omega) ?_
    refine Wv.ldc (v := i32 40503) dL_cell_12 (tb2 (i := 8) rfl) rfl ?_
    refine Wv.iload_n (i := 1) dL_cell_14 rfl rfl ?_
    refine Wi.mul dL_cell_15 ?_
    exact Wv.iret rfl rfl dL_cell_16
theorem a_pick {X : Cx} {h : Nat} {w : Wl} {k n : Int} (hs : X.sL ≤ 2048) (hk : 0 ≤ k ∧ k ≤ 5000) (hn : 0 < n ∧ n ≤ 5000) : Kl X h m_L_pick 5 [va_rf (some X.sb), .int (i32 k), .int (i32 n)] w (.inl (some (.int (i32 (pkv X k n))))) w := by
  refine Kl.of (by decide +kernel) rfl (Nat.le_of_ble_eq_true rfl) (by simp [Value.category, va_rf]) ?_
  show Wv X h m_L_pick 5 0 [some (va_rf (some X.sb)), some (.int (i32 k)), some (.int (i32 n))] [] w _ w
  have hr := hlf_r (cellv X k)
  unfold pkv
  refine Wv.aload_n (i := 0) dL_pick_0 rfl rfl ?_
  refine Wv.iload_n (i := 1) dL_pick_1 rfl rfl ?_
  refine Wv.callS (As := [_, _]) (v := some _) k_L_cell (tb2 (i := 5) rfl) ki_L_cell dL_pick_2 rfl rfl (Nat.le_of_ble_eq_true rfl) (Nat.le_of_ble_eq_true rfl) (a_cell hs hk) ?_
  refine Wi.const dL_pick_5 ?_
  refine Wv.iushr dL_pick_6 (hlf_eq _) ?_
  refine Wv.iload_n (i := 2) dL_pick_7 rfl rfl ?_
  refine Wi.rem hr.1 hr.2 hn.1 ⟨by omega, by omega⟩ dL_pick_8 ?_
  exact Wv.iret rfl rfl dL_pick_9
def m_L_law : Mt := (yL_law, cL_law, 22, some .boolean, [])
theorem v00_im : IM v00 40 0 := by
  refine ⟨⟨by decide, by decide, by decide, by decide⟩, fun k i => ?_⟩
  have hl : loV k 40 ≤ 0 := by
    unfold loV
    split <;> decide
  have hh : 0 ≤ hiV k 40 0 := by
    unfold hiV
    split <;> decide
  unfold v00
  split
  · rename_i h
    rw [h.1]
    decide
  · exact ⟨hl, hh⟩
/-- the law goes on from here to its end with true -/
def Go (X : Cx) (h pc : Nat) (ls : List (Option Value)) (w : Wl) : Prop := ∃ w', (w'.2.1.1 ≤ 1000 ∧ w'.2.1.2 ≤ 130000 ∧ ∃ T E, IM w'.1 T E) ∧ Wv X h m_L_law 40 pc ls [] w (.inl (some (.int (i32 1)))) w'
theorem Go.fg {X : Cx} {h pc : Nat} {ls ls' : List (Option Value)} {w : Wl} (q : lsub ls' ls) (k : Go X h pc ls' w) : Go X h pc ls w := by
  obtain ⟨w', q9, k⟩ := k
  exact ⟨w', q9, Wv.fgt q k⟩
theorem Go.more {X : Cx} {h pc : Nat} {ls : List (Option Value)} {v : Vw} {y x y' x' : Int} {nm : Nat × Nat} {R : List Ar} (hy : y ≤ y') (hx : x ≤ x') (k : Go X h pc ls (v, (y', x'), nm, R)) : Go X h pc ls (v, (y, x), nm, R) := by
  obtain ⟨w', q9, k⟩ := k
  exact ⟨w', q9, Wv.more hy hx k⟩
theorem Go.inv {X : Cx} {h pc : Nat} {ls : List (Option Value)} {w : Wl} (k : (∃ c, INV c w.1) → Go X h pc ls w) : Go X h pc ls w := by
  by_cases q : ∃ c, INV c w.1
  · exact k q
  · exact ⟨(v00, (0, 0), w.2.2), ⟨by show (0 : Int) ≤ 1000; decide, by show (0 : Int) ≤ 130000; decide, 40, 0, v00_im⟩, fun σ hR => absurd hR.inv q⟩
/-- what holds of the model's view at the head of a round: T, E: IM's bounds -/
def LI (v : Vw) (T E re ve cr mo : Int) (u tk : Int → Int) : Prop :=
  IM v T E ∧ PA mo v ∧ PD v ∧ (v 1 0 = re ∧ v 2 0 = ve ∧ v 3 0 = cr) ∧ (cr ≤ mo ∧ 1 ≤ mo ∧ mo ≤ 4 ∧ 0 ≤ cr) ∧ (∀ j, 0 ≤ j → j < ve → tk j = v 20 j) ∧ ∀ o, 0 ≤ o → o < v 6 0 → u o = osm v o
/-- the locals at the head of a round -/
def lsH (X : Cx) (h un it : Nat) (re ve cr mo k r : Int) : List (Option Value) := [some (va_rf (some X.sb)), some (va_rf (some h)), some (.int (i32 re)), some (.int (i32 ve)), some (.int (i32 cr)), some (.int (i32 mo)), some (.int (i32 1)), some (va_rf (some it)), some (va_rf (some un)), some (.int (i32 k)), some (.int (i32 r)), none, none, none, none, none, none, none, none, none, none, none]
/-- .. and after the draws of the round -/
def lsD (X : Cx) (h un it : Nat) (re ve cr mo k r : Int) (s : Int64) (a b n kd q : Int) : List (Option Value) := [some (va_rf (some X.sb)), some (va_rf (some h)), some (.int (i32 re)), some (.int (i32 ve)), some (.int (i32 cr)), some (.int (i32 mo)), some (.int (i32 1)), some (va_rf (some it)), some (va_rf (some un)), some (.int (i32 k)), some (.int (i32 r)), some (.long s), none, some (.int (i32 a)), some (.int (i32 b)), some (.int (i32 n)), some (.int (i32 kd)), some (.int (i32 q)), some (.int (i32 0)), none, none, none]
/-- .. and after what the round did: t what it was told -/
def lsT (X : Cx) (h un it : Nat) (re ve cr mo k r : Int) (s : Int64) (t : Int) : List (Option Value) := [some (va_rf (some X.sb)), some (va_rf (some h)), some (.int (i32 re)), some (.int (i32 ve)), some (.int (i32 cr)), some (.int (i32 mo)), some (.int (i32 1)), some (va_rf (some it)), some (va_rf (some un)), some (.int (i32 k)), some (.int (i32 r)), some (.long s), none, none, none, none, none, none, some (.int (i32 t)), none, none, none]
theorem nar_t : narrow .boolean (.int (i32 1)) = .int (i32 1) := nar_b (Or.inr rfl)
theorem q_head {X : Cx} {h un it : Nat} {v : Vw} {T E re ve cr mo k r y x : Int} {u tk : Int → Int} {n m : Nat} (hN : KN X) (hs : X.sL ≤ 2048) (hL : LI v T E re ve cr mo u tk) (hk : 0 ≤ k ∧ k ≤ 4000) (hr : 0 ≤ r ∧ r < 110) (h1 : 1 ≤ re ∧ re ≤ 4) (h2 : 1 ≤ ve ∧ ve ≤ 8)
    (K : ∀ (a b n9 kd : Int), (0 ≤ a ∧ a ≤ 4) → (0 ≤ b ∧ b ≤ 8) → (0 ≤ n9 ∧ n9 < 1000) → (0 ≤ kd ∧ kd < 28) → Go X h 310 (lsD X h un it re ve cr mo k r (Sm9 v) a b n9 kd (n9 % 20)) (v, (y, x + 94), (n, m), Rz un it u tk)) :
    Go X h 202 (lsH X h un it re ve cr mo k r) (v, (y, x), (n, m), Rz un it u tk) := by
  obtain ⟨hI, -, -, ⟨e1, e2, e3⟩, -, -, -⟩ := hL
  subst e1
  subst e2
  have p1 := pkv_r (X := X) (k := k + 1) (n := 40) (by omega)
  have p2 := pkv_r (X := X) (k := k + 1) (n := v 1 0) (by omega)
  have p3 := pkv_r (X := X) (k := k + 2) (n := 40) (by omega)
  have p4 := pkv_r (X := X) (k := k + 2) (n := v 2 0) (by omega)
  have p5 := pkv_r (X := X) (k := k + 3) (n := 1000) (by omega)
  have p6 := pkv_r (X := X) (k := k) (n := 28) (by omega)
  obtain ⟨a, ha, Ra, F1⟩ : ∃ a, (0 ≤ a ∧ a ≤ 4) ∧ True ∧ ∀ (ls : List (Option Value)) (w w' : Wl), ls[0]? = some (some (va_rf (some X.sb))) → ls[2]? = some (some (.int (i32 (v 1 0)))) → ls[9]? = some (some (.int (i32 k))) → Wv X h m_L_law 40 247 ls [.int (i32 a)] w (.inl (some (.int (i32 1)))) w' → Wv X h m_L_law 40 221 ls [] w (.inl (some (.int (i32 1)))) w' := by
    by_cases c : pkv X (k + 1) 40 = 0
    · refine ⟨v 1 0, ⟨by omega, by omega⟩, trivial, fun ls w w' g0 g2 g9 kk => ?_⟩
      refine Wv.aload_n (i := 0) dL_law_221 rfl g0 ?_
      refine Wv.iload dL_law_222 g9 ?_
      refine Wi.const dL_law_224 ?_
      refine Wi.add dL_law_225 ?_
      refine Wv.bipush (v := i32 40) dL_law_226 (by decide) ?_
      refine Wv.callS (As := [_, _, _]) (v := some _) k_L_pick (tb2 (i := 2) rfl) ki_L_pick dL_law_228 rfl rfl (Nat.le_of_ble_eq_true rfl) (Nat.le_of_ble_eq_true rfl) (a_pick hs ⟨by omega, by omega⟩ ⟨by omega, by omega⟩) ?_
      refine Wi.if_ne_f (tgt := 238) dL_law_231 (by decide) ⟨by omega, by omega⟩ (by omega) ?_
      refine Wv.iload_n (i := 2) dL_law_234 rfl g2 ?_
      refine Wv.goto (tgt := 247) dL_law_235 (by decide) ?_
      exact kk
    · refine ⟨pkv X (k + 1) (v 1 0), ⟨by omega, by omega⟩, trivial, fun ls w w' g0 g2 g9 kk => ?_⟩
      refine Wv.aload_n (i := 0) dL_law_221 rfl g0 ?_
      refine Wv.iload dL_law_222 g9 ?_
      refine Wi.const dL_law_224 ?_
      refine Wi.add dL_law_225 ?_
      refine Wv.bipush (v := i32 40) dL_law_226 (by decide) ?_
      refine Wv.callS (As := [_, _, _]) (v := some _) k_L_pick (tb2 (i := 2) rfl) ki_L_pick dL_law_228 rfl rfl (Nat.le_of_ble_eq_true rfl) (Nat.le_of_ble_eq_true rfl) (a_pick hs ⟨by omega, by omega⟩ ⟨by omega, by omega⟩) ?_
      refine Wi.if_ne_t (tgt := 238) dL_law_231 (by decide) ⟨by omega, by omega⟩ (by omega) ?_
      refine Wv.aload_n (i := 0) dL_law_238 rfl g0 ?_
      refine Wv.iload dL_law_239 g9 ?_
      refine Wi.const dL_law_241 ?_
      refine Wi.add dL_law_242 ?_
      refine Wv.iload_n (i := 2) dL_law_243 rfl g2 ?_
      refine Wv.callS (As := [_, _, _]) (v := some _) k_L_pick (tb2 (i := 2) rfl) ki_L_pick dL_law_244 rfl rfl (Nat.le_of_ble_eq_true rfl) (Nat.le_of_ble_eq_true rfl) (a_pick hs ⟨by omega, by omega⟩ ⟨by omega, by omega⟩) ?_
      exact kk
  obtain ⟨b, hb, Rb, F2⟩ : ∃ b, (0 ≤ b ∧ b ≤ 8) ∧ True ∧ ∀ (ls : List (Option Value)) (w w' : Wl), ls[0]? = some (some (va_rf (some X.sb))) → ls[3]? = some (some (.int (i32 (v 2 0)))) → ls[9]? = some (some (.int (i32 k))) → Wv X h m_L_law 40 275 ls [.int (i32 b)] w (.inl (some (.int (i32 1)))) w' → Wv X h m_L_law 40 249 ls [] w (.inl (some (.int (i32 1)))) w' := by
    by_cases c : pkv X (k + 2) 40 = 0
    · refine ⟨v 2 0, ⟨by omega, by omega⟩, trivial, fun ls w w' g0 g3 g9 kk => ?_⟩
      refine Wv.aload_n (i := 0) dL_law_249 rfl g0 ?_
      refine Wv.iload dL_law_250 g9 ?_
      refine Wi.const dL_law_252 ?_
      refine Wi.add dL_law_253 ?_
      refine Wv.bipush (v := i32 40) dL_law_254 (by decide) ?_
      refine Wv.callS (As := [_, _, _]) (v := some _) k_L_pick (tb2 (i := 2) rfl) ki_L_pick dL_law_256 rfl rfl (Nat.le_of_ble_eq_true rfl) (Nat.le_of_ble_eq_true rfl) (a_pick hs ⟨by omega, by omega⟩ ⟨by omega, by omega⟩) ?_
      refine Wi.if_ne_f (tgt := 266) dL_law_259 (by decide) ⟨by omega, by omega⟩ (by omega) ?_
      refine Wv.iload_n (i := 3) dL_law_262 rfl g3 ?_
      refine Wv.goto (tgt := 275) dL_law_263 (by decide) ?_
      exact kk
    · refine ⟨pkv X (k + 2) (v 2 0), ⟨by omega, by omega⟩, trivial, fun ls w w' g0 g3 g9 kk => ?_⟩
      refine Wv.aload_n (i := 0) dL_law_249 rfl g0 ?_
      refine Wv.iload dL_law_250 g9 ?_
      refine Wi.const dL_law_252 ?_
      refine Wi.add dL_law_253 ?_
      refine Wv.bipush (v := i32 40) dL_law_254 (by decide) ?_
      refine Wv.callS (As := [_, _, _]) (v := some _) k_L_pick (tb2 (i := 2) rfl) ki_L_pick dL_law_256 rfl rfl (Nat.le_of_ble_eq_true rfl) (Nat.le_of_ble_eq_true rfl) (a_pick hs ⟨by omega, by omega⟩ ⟨by omega, by omega⟩) ?_
      refine Wi.if_ne_t (tgt := 266) dL_law_259 (by decide) ⟨by omega, by omega⟩ (by omega) ?_
      refine Wv.aload_n (i := 0) dL_law_266 rfl g0 ?_
      refine Wv.iload dL_law_267 g9 ?_
      refine Wi.const dL_law_269 ?_
      refine Wi.add dL_law_270 ?_
      refine Wv.iload_n (i := 3) dL_law_271 rfl g3 ?_
      refine Wv.callS (As := [_, _, _]) (v := some _) k_L_pick (tb2 (i := 2) rfl) ki_L_pick dL_law_272 rfl rfl (Nat.le_of_ble_eq_true rfl) (Nat.le_of_ble_eq_true rfl) (a_pick hs ⟨by omega, by omega⟩ ⟨by omega, by omega⟩) ?_
      exact kk
  obtain ⟨w', q9, kk⟩ := K a b (pkv X (k + 3) 1000) (pkv X k 28) ha hb p5 p6
  refine ⟨w', q9, ?_⟩
  unfold lsH
  refine Wv.iload dL_law_202 rfl ?_
  refine Wv.bipush (v := i32 110) dL_law_204 (by decide) ?_
  refine Wi.icmp_ge_f (tgt := 970) dL_law_206 (by decide) ⟨by omega, by omega⟩ ⟨by omega, by omega⟩ (by omega) ?_
  refine Wv.iload dL_law_209 rfl ?_
  refine Wi.if_eq_f (tgt := 970) dL_law_211 (by decide) ⟨by omega, by omega⟩ (by omega) ?_
  refine Wv.aload_n (i := 1) dL_law_214 rfl rfl ?_
  refine Wv.iload_n (i := 3) dL_law_215 rfl rfl ?_
  refine Wv.callS (As := [_, _]) (v := some _) k_L_sum (tb6 (i := 97) rfl) ki_L_sum dL_law_216 rfl rfl (Nat.le_of_ble_eq_true rfl) (Nat.le_of_ble_eq_true rfl) (a_sum hN hI) ?_
  refine Wv.lstore dL_law_219 (by decide) rfl ?_
  refine F1 _ _ _ rfl rfl rfl ?_
  refine Wv.istore dL_law_247 (by decide) rfl ?_
  refine F2 _ _ _ rfl rfl rfl ?_
  refine Wv.istore dL_law_275 (by decide) rfl ?_
  refine Wv.aload_n (i := 0) dL_law_277 rfl rfl ?_
  refine Wv.iload dL_law_278 rfl ?_
  refine Wi.const dL_law_280 ?_
  refine Wi.add dL_law_281 ?_
  refine Wv.sipush (v := i32 1000) dL_law_282 (by decide) ?_
  refine Wv.callS (As := [_, _, _]) (v := some _) k_L_pick (tb2 (i := 2) rfl) ki_L_pick dL_law_285 rfl rfl (Nat.le_of_ble_eq_true rfl) (Nat.le_of_ble_eq_true rfl) (a_pick hs ⟨by omega, by omega⟩ ⟨by omega, by omega⟩) ?_
  refine Wv.istore dL_law_288 (by decide) rfl ?_
  refine Wv.aload_n (i := 0) dL_law_290 rfl rfl ?_
  refine Wv.iload dL_law_291 rfl ?_
  refine Wv.bipush (v := i32 28) dL_law_293 (by decide) ?_
  refine Wv.callS (As := [_, _, _]) (v := some _) k_L_pick (tb2 (i := 2) rfl) ki_L_pick dL_law_295 rfl rfl (Nat.le_of_ble_eq_true rfl) (Nat.le_of_ble_eq_true rfl) (a_pick hs ⟨by omega, by omega⟩ ⟨by omega, by omega⟩) ?_
  refine Wv.istore dL_law_298 (by decide) rfl ?_
  refine Wv.iload dL_law_300 rfl ?_
  refine Wv.bipush (v := i32 20) dL_law_302 (by decide) ?_
  refine Wi.rem (by omega) ⟨by omega, by omega⟩ (by omega) ⟨by omega, by omega⟩ dL_law_304 ?_
  refine Wv.istore dL_law_305 (by decide) rfl ?_
  refine Wi.const dL_law_307 ?_
  refine Wv.istore dL_law_308 (by decide) rfl ?_
  exact kk
