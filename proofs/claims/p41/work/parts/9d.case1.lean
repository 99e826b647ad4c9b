/-! the law: what a round does (written by wip/p41/mk9d.py) -/
theorem LI.fr {v w : Vw} {T E T' E' re ve cr mo : Int} {u tk : Int → Int} (h : LI v T E re ve cr mo u tk) (hI : IM w T' E') (F : ∀ k, k ≠ 0 ∧ k ≠ 7 ∧ k ≠ 21 ∧ k ≠ 39 ∧ k ≠ 40 ∧ k ≠ 41 ∧ k ≠ 42 ∧ k ≠ 43 → ∀ i, w k i = v k i) : LI w T' E' re ve cr mo u tk := by
  obtain ⟨-, hA, hD, ⟨e1, e2, e3⟩, hc, htk, hu⟩ := h
  refine ⟨hI, hA.fr (fun k hk i => F k (by omega) i), hD.fr (fun k hk i => F k (by omega) i), ⟨by rw [F 1 (by decide), e1], by rw [F 2 (by decide), e2], by rw [F 3 (by decide), e3]⟩, hc, fun j j0 j1 => by rw [F 20 (by decide)]; exact htk j j0 j1, fun o o0 o1 => ?_⟩
  rw [F 6 (by decide)] at o1
  rw [hu o o0 o1]
  exact (osm_congr (F 33 (by decide) o) (fun k _ _ => F 37 (by decide) _)).symm
theorem LI.fl {v w : Vw} {T E T' E' re ve cr mo : Int} {u tk : Int → Int} (h : LI v T E re ve cr mo u tk) (hI : IM w T' E') (F : Fl v w) : LI w T' E' re ve cr mo u tk := h.fr hI (fun k hk i => F k hk.1 i)
theorem Wv.fin {X : Cx} {h : Nat} {M : Mt} {d pc : Nat} {ls ls' : List (Option Value)} {st : List Value} {w w' : Wl} {o : Rs} (k : Wv X h M d pc ls' st w o w') (q : lsub ls' ls) : Wv X h M d pc ls st w o w' := Wv.fgt q k
theorem qc_f {cod : Int → Int} {p : Int × Vw} (h : 1 ≤ p.2 0 0) (hc : ∀ k, -100 ≤ cod k ∧ cod k < 0) : ∃ t, qc cod p = t ∧ -100 ≤ t ∧ t < 0 := ⟨cod (p.2 0 0), qc_x rfl (by omega), hc _⟩
theorem tk11_0 {was : Int} (hw : 0 ≤ was) : ∀ (n : Nat) (k : Int) (v : Vw), 0 ≤ (l_takesOut_11 was n k v).1 := by
  intro n
  induction n with
  | zero => exact fun _ _ => Int.le_refl 0
  | succ n ih =>
    intro k v
    rw [l_takesOut_11]
    split
    · exact hw
    · exact ih _ _
theorem q_setCrews {X : Cx} {h un it : Nat} {v : Vw} {T E re ve cr mo k r y x a b n9 kd : Int} {u tk : Int → Int} {n m : Nat} (hN : KN X) (hL : LI v T E re ve cr mo u tk) (hT : T + 31 ≤ 20000) (hE : E + 102300 ≤ 1000000000) (ha : 0 ≤ a ∧ a ≤ 4) (hb : 0 ≤ b ∧ b ≤ 8) (hn : 0 ≤ n9 ∧ n9 < 1000)  (hk : kd = 0)
    (K : ∀ (v2 : Vw) (cr2 mo2 t : Int) (u2 : Int → Int), LI v2 (T + 31) (E + 102300) re ve cr2 mo2 u2 tk → R32 t → (t < 0 → Fl v v2) → Go X h 877 (lsT X h un it re ve cr2 mo2 k r (Sm9 v) t) (v2, (y + 6, x + 66), (n, m), Rz un it u2 tk)) :
    Go X h 310 (lsD X h un it re ve cr mo k r (Sm9 v) a b n9 kd (n9 % 20)) (v, (y, x), (n, m), Rz un it u tk) := by
  refine Go.inv (fun hV => ?_)
  obtain ⟨c9, hV⟩ := hV
  have hV : INV c9 v := hV
  have hL9 := hL
  obtain ⟨hI, hA, hD, ⟨e1, e2, e3⟩, hc, htk, hu⟩ := hL
  have hT0 := hI.1
  have hM : IM v (T + 31) (E + 102300) := hI.mono (by omega) (by omega) (by omega) (by omega)
  have u8 : 0 ≤ v 8 0 ∧ v 8 0 ≤ T := hI.2 8 0
  have u6 : 0 ≤ v 6 0 ∧ v 6 0 ≤ 20 := hI.2 6 0
  have u7 : 0 ≤ v 7 0 ∧ v 7 0 ≤ 6 := hI.2 7 0
  have u5 : 0 ≤ v 5 0 ∧ v 5 0 ≤ 30 := hI.2 5 0
  have u1 : 0 ≤ v 1 0 ∧ v 1 0 ≤ 5 := hI.2 1 0
  have u33 : ∀ o, 0 ≤ v 33 o ∧ v 33 o ≤ 4 := fun o => hI.2 33 o
  have h34 := hV.2.2.1.2.2.2.2.2
  have hw := w_setCrews (X := X) (h := h) (y := y) (x := x) (n := n) (m := m) (R := Rz un it u tk) hN hI (a := n9 % 5) ⟨by omega, by omega⟩
  have hI2 := i_setCrews (a := n9 % 5) hM ⟨by omega, by omega⟩
  rcases x_setCrews (n9 % 5) v with ⟨z, F⟩ | ⟨z, e, hr, e5⟩
  · obtain ⟨t, et, t0, t1⟩ := qc_f (cod := cod_setCrews) (p := f_setCrews (n9 % 5) v) (by omega) (fun k => by unfold cod_setCrews; first | (repeat' split) <;> omega | omega)
    rw [et] at hw
    obtain ⟨w', q9, kk⟩ := K _ cr (if mo < cr then cr else mo) t (u) (by rw [if_neg (by omega)]; exact hL9.fl hI2 F) ⟨by omega, by omega⟩ (fun _ => F)
    refine ⟨w', q9, ?_⟩
    unfold lsD
    refine Wv.iload dL_law_310 rfl ?_
    refine Wi.if_ne_f (tgt := 372) dL_law_312 (by decide) ⟨by omega, by omega⟩ (by omega) ?_
    refine Wv.aload_n (i := 1) dL_law_315 rfl rfl ?_
    refine Wv.iload dL_law_316 rfl ?_
    refine Wi.const dL_law_318 ?_
    refine Wi.rem (by omega) ⟨by omega, by omega⟩ (by omega) ⟨by omega, by omega⟩ dL_law_319 ?_
    refine Wv.callH (As := [_, _]) (v := some _) k_L_setCrews (tb2 (i := 218) rfl) ki_L_setCrews dL_law_320 rfl rfl (Nat.le_of_ble_eq_true rfl) (Nat.le_of_ble_eq_true rfl) hw ?_
    refine Wv.istore dL_law_323 (by decide) rfl ?_
    refine Wv.iload dL_law_325 rfl ?_
    refine Wi.if_lt_t (tgt := 337) dL_law_327 (by decide) ⟨by omega, by omega⟩ (by omega) ?_
    refine Wi.const dL_law_337 ?_
    refine Wv.goto (tgt := 342) dL_law_338 (by decide) ?_
    refine Wv.istore dL_law_342 (by decide) rfl ?_
    refine Wv.iload dL_law_344 rfl ?_
    refine Wi.if_ge_f (tgt := 354) dL_law_346 (by decide) ⟨by omega, by omega⟩ (by omega) ?_
    refine Wv.iload dL_law_349 rfl ?_
    refine Wv.goto (tgt := 358) dL_law_351 (by decide) ?_
    refine Wv.istore dL_law_358 (by decide) rfl ?_
    refine Wv.iload dL_law_360 rfl ?_
    refine Wv.iload dL_law_362 rfl ?_
    refine Wv.max ⟨by omega, by omega⟩ ⟨by omega, by omega⟩ (tb6 (i := 211) rfl) (by decide) (by decide) dL_law_364 ?_
    refine Wv.istore dL_law_367 (by decide) rfl ?_
    refine Wv.goto (tgt := 877) dL_law_369 (by decide) ?_
    exact Wv.more (by omega) (by omega) (Wv.fin kk ⟨rfl, rfl, rfl, rfl, rfl, rfl, rfl, rfl, rfl, rfl, rfl, rfl, rfl, trivial⟩)
  · rw [qc_v z, e, e3] at hw
    have hmo : mo ≤ (if mo < n9 % 5 then n9 % 5 else mo) ∧ n9 % 5 ≤ (if mo < n9 % 5 then n9 % 5 else mo) ∧ (if mo < n9 % 5 then n9 % 5 else mo) ≤ 4 := by split <;> omega
    have Q : ∀ k, k ≠ 0 ∧ k ≠ 3 → ∀ i, (f_setCrews (n9 % 5) v).2 k i = v k i := fun k hk i => fr_setCrews k i hk
    have L2 : LI (f_setCrews (n9 % 5) v).2 (T + 31) (E + 102300) re ve (n9 % 5) (if mo < n9 % 5 then n9 % 5 else mo) u tk := by
      refine ⟨hI2, (hA.fr (fun k hk i => Q k (by omega) i)).mono hmo.1, hD.fr (fun k hk i => Q k (by omega) i), ⟨by rw [Q 1 (by decide), e1], by rw [Q 2 (by decide), e2], e5⟩, ⟨hmo.2.1, by omega, hmo.2.2, by omega⟩, fun j j0 j1 => by rw [Q 20 (by decide)]; exact htk j j0 j1, fun o o0 o1 => ?_⟩
      rw [Q 6 (by decide)] at o1
      rw [hu o o0 o1]
      exact (osm_congr (Q 33 (by decide) o) (fun k _ _ => Q 37 (by decide) _)).symm
    obtain ⟨w', q9, kk⟩ := K _ (n9 % 5) (if mo < n9 % 5 then n9 % 5 else mo) cr u L2 ⟨by omega, by omega⟩ (fun q => absurd q (by omega))
    refine ⟨w', q9, ?_⟩
    unfold lsD
    refine Wv.iload dL_law_310 rfl ?_
    refine Wi.if_ne_f (tgt := 372) dL_law_312 (by decide) ⟨by omega, by omega⟩ (by omega) ?_
    refine Wv.aload_n (i := 1) dL_law_315 rfl rfl ?_
    refine Wv.iload dL_law_316 rfl ?_
    refine Wi.const dL_law_318 ?_
    refine Wi.rem (by omega) ⟨by omega, by omega⟩ (by omega) ⟨by omega, by omega⟩ dL_law_319 ?_
    refine Wv.callH (As := [_, _]) (v := some _) k_L_setCrews (tb2 (i := 218) rfl) ki_L_setCrews dL_law_320 rfl rfl (Nat.le_of_ble_eq_true rfl) (Nat.le_of_ble_eq_true rfl) hw ?_
    refine Wv.istore dL_law_323 (by decide) rfl ?_
    refine Wv.iload dL_law_325 rfl ?_
    refine Wi.if_lt_f (tgt := 337) dL_law_327 (by decide) ⟨by omega, by omega⟩ (by omega) ?_
    refine Wv.iload dL_law_330 rfl ?_
    refine Wv.iload dL_law_332 rfl ?_
    refine Wi.icmp_ne_f (tgt := 341) dL_law_334 (by decide) ⟨by omega, by omega⟩ ⟨by omega, by omega⟩ (by omega) ?_
    refine Wi.const dL_law_337 ?_
    refine Wv.goto (tgt := 342) dL_law_338 (by decide) ?_
    refine Wv.istore dL_law_342 (by decide) rfl ?_
    refine Wv.iload dL_law_344 rfl ?_
    refine Wi.if_ge_t (tgt := 354) dL_law_346 (by decide) ⟨by omega, by omega⟩ (by omega) ?_
    refine Wv.iload dL_law_354 rfl ?_
    refine Wi.const dL_law_356 ?_
    refine Wi.rem (by omega) ⟨by omega, by omega⟩ (by omega) ⟨by omega, by omega⟩ dL_law_357 ?_
    refine Wv.istore dL_law_358 (by decide) rfl ?_
    refine Wv.iload dL_law_360 rfl ?_
    refine Wv.iload dL_law_362 rfl ?_
    refine Wv.max ⟨by omega, by omega⟩ ⟨by omega, by omega⟩ (tb6 (i := 211) rfl) (by decide) (by decide) dL_law_364 ?_
    refine Wv.istore dL_law_367 (by decide) rfl ?_
    refine Wv.goto (tgt := 877) dL_law_369 (by decide) ?_
    exact Wv.more (by omega) (by omega) (Wv.fin kk ⟨rfl, rfl, rfl, rfl, rfl, rfl, rfl, rfl, rfl, rfl, rfl, rfl, rfl, trivial⟩)
theorem q_addPacks {X : Cx} {h un it : Nat} {v : Vw} {T E re ve cr mo k r y x a b n9 kd : Int} {u tk : Int → Int} {n m : Nat} (hN : KN X) (hL : LI v T E re ve cr mo u tk) (hT : T + 31 ≤ 20000) (hE : E + 102300 ≤ 1000000000) (ha : 0 ≤ a ∧ a ≤ 4) (hb : 0 ≤ b ∧ b ≤ 8) (hn : 0 ≤ n9 ∧ n9 < 1000)  (hk : 1 ≤ kd ∧ kd < 3)
    (K : ∀ (v2 : Vw) (cr2 mo2 t : Int) (u2 : Int → Int), LI v2 (T + 31) (E + 102300) re ve cr2 mo2 u2 tk → R32 t → (t < 0 → Fl v v2) → Go X h 877 (lsT X h un it re ve cr2 mo2 k r (Sm9 v) t) (v2, (y + 6, x + 66), (n, m), Rz un it u2 tk)) :
    Go X h 310 (lsD X h un it re ve cr mo k r (Sm9 v) a b n9 kd (n9 % 20)) (v, (y, x), (n, m), Rz un it u tk) := by
  refine Go.inv (fun hV => ?_)
  obtain ⟨c9, hV⟩ := hV
  have hV : INV c9 v := hV
  have hL9 := hL
  obtain ⟨hI, hA, hD, ⟨e1, e2, e3⟩, hc, htk, hu⟩ := hL
  have hT0 := hI.1
  have hM : IM v (T + 31) (E + 102300) := hI.mono (by omega) (by omega) (by omega) (by omega)
  have u8 : 0 ≤ v 8 0 ∧ v 8 0 ≤ T := hI.2 8 0
  have u6 : 0 ≤ v 6 0 ∧ v 6 0 ≤ 20 := hI.2 6 0
  have u7 : 0 ≤ v 7 0 ∧ v 7 0 ≤ 6 := hI.2 7 0
  have u5 : 0 ≤ v 5 0 ∧ v 5 0 ≤ 30 := hI.2 5 0
  have u1 : 0 ≤ v 1 0 ∧ v 1 0 ≤ 5 := hI.2 1 0
  have u33 : ∀ o, 0 ≤ v 33 o ∧ v 33 o ≤ 4 := fun o => hI.2 33 o
  have h34 := hV.2.2.1.2.2.2.2.2
  have hw := w_addPacks (X := X) (h := h) (y := y) (x := x) (n := n) (m := m) (R := Rz un it u tk) hN hI (a := n9 % 2) (b := n9 % 10) ⟨by omega, by omega⟩ ⟨by omega, by omega⟩
  have u21 : 0 ≤ v 21 (n9 % 2) ∧ v 21 (n9 % 2) ≤ 9 * T := hI.2 21 (n9 % 2)
  have hI2 := i_addPacks (a := n9 % 2) (b := n9 % 10) hM ⟨by omega, by omega⟩ ⟨by omega, by omega⟩ (fun _ _ => by omega)
  rcases x_addPacks (n9 % 2) (n9 % 10) v with ⟨z, F⟩ | ⟨z, e, hr⟩
  · obtain ⟨t, et, t0, t1⟩ := qc_f (cod := cod_addPacks) (p := f_addPacks (n9 % 2) (n9 % 10) v) (by omega) (fun k => by unfold cod_addPacks; first | (repeat' split) <;> omega | omega)
    rw [et] at hw
    obtain ⟨w', q9, kk⟩ := K _ cr mo t (u) (hL9.fl hI2 F) ⟨by omega, by omega⟩ (fun _ => F)
    refine ⟨w', q9, ?_⟩
    unfold lsD
    refine Wv.iload dL_law_310 rfl ?_
    refine Wi.if_ne_t (tgt := 372) dL_law_312 (by decide) ⟨by omega, by omega⟩ (by omega) ?_
    refine Wv.iload dL_law_372 rfl ?_
    refine Wi.const dL_law_374 ?_
    refine Wi.icmp_ge_f (tgt := 396) dL_law_375 (by decide) ⟨by omega, by omega⟩ ⟨by omega, by omega⟩ (by omega) ?_
    refine Wv.aload_n (i := 1) dL_law_378 rfl rfl ?_
    refine Wv.iload dL_law_379 rfl ?_
    refine Wi.const dL_law_381 ?_
    refine Wi.rem (by omega) ⟨by omega, by omega⟩ (by omega) ⟨by omega, by omega⟩ dL_law_382 ?_
    refine Wv.iload dL_law_383 rfl ?_
    refine Wv.bipush (v := i32 10) dL_law_385 (by decide) ?_
    refine Wi.rem (by omega) ⟨by omega, by omega⟩ (by omega) ⟨by omega, by omega⟩ dL_law_387 ?_
    refine Wv.callH (As := [_, _, _]) (v := some _) k_L_addPacks (tb2 (i := 226) rfl) ki_L_addPacks dL_law_388 rfl rfl (Nat.le_of_ble_eq_true rfl) (Nat.le_of_ble_eq_true rfl) hw ?_
    refine Wv.istore dL_law_391 (by decide) rfl ?_
    refine Wv.goto (tgt := 877) dL_law_393 (by decide) ?_
    exact Wv.more (by omega) (by omega) (Wv.fin kk ⟨rfl, rfl, rfl, rfl, rfl, rfl, rfl, rfl, rfl, rfl, rfl, rfl, rfl, trivial⟩)
  · rw [qc_v z, e] at hw
    obtain ⟨w', q9, kk⟩ := K _ cr mo (v 21 (n9 % 2) + n9 % 10) (u) (hL9.fr hI2 (fun k hk i => fr_addPacks k i (by omega))) ⟨by omega, by omega⟩ (fun q => absurd q (by omega))
    refine ⟨w', q9, ?_⟩
    unfold lsD
    refine Wv.iload dL_law_310 rfl ?_
    refine Wi.if_ne_t (tgt := 372) dL_law_312 (by decide) ⟨by omega, by omega⟩ (by omega) ?_
    refine Wv.iload dL_law_372 rfl ?_
    refine Wi.const dL_law_374 ?_
    refine Wi.icmp_ge_f (tgt := 396) dL_law_375 (by decide) ⟨by omega, by omega⟩ ⟨by omega, by omega⟩ (by omega) ?_
    refine Wv.aload_n (i := 1) dL_law_378 rfl rfl ?_
    refine Wv.iload dL_law_379 rfl ?_
    refine Wi.const dL_law_381 ?_
    refine Wi.rem (by omega) ⟨by omega, by omega⟩ (by omega) ⟨by omega, by omega⟩ dL_law_382 ?_
    refine Wv.iload dL_law_383 rfl ?_
    refine Wv.bipush (v := i32 10) dL_law_385 (by decide) ?_
    refine Wi.rem (by omega) ⟨by omega, by omega⟩ (by omega) ⟨by omega, by omega⟩ dL_law_387 ?_
    refine Wv.callH (As := [_, _, _]) (v := some _) k_L_addPacks (tb2 (i := 226) rfl) ki_L_addPacks dL_law_388 rfl rfl (Nat.le_of_ble_eq_true rfl) (Nat.le_of_ble_eq_true rfl) hw ?_
    refine Wv.istore dL_law_391 (by decide) rfl ?_
    refine Wv.goto (tgt := 877) dL_law_393 (by decide) ?_
    exact Wv.more (by omega) (by omega) (Wv.fin kk ⟨rfl, rfl, rfl, rfl, rfl, rfl, rfl, rfl, rfl, rfl, rfl, rfl, rfl, trivial⟩)
theorem q_enqueue {X : Cx} {h un it : Nat} {v : Vw} {T E re ve cr mo k r y x a b n9 kd : Int} {u tk : Int → Int} {n m : Nat} (hN : KN X) (hL : LI v T E re ve cr mo u tk) (hT : T + 31 ≤ 20000) (hE : E + 102300 ≤ 1000000000) (ha : 0 ≤ a ∧ a ≤ 4) (hb : 0 ≤ b ∧ b ≤ 8) (hn : 0 ≤ n9 ∧ n9 < 1000)  (hk : 8 ≤ kd ∧ kd < 11)
    (K : ∀ (v2 : Vw) (cr2 mo2 t : Int) (u2 : Int → Int), LI v2 (T + 31) (E + 102300) re ve cr2 mo2 u2 tk → R32 t → (t < 0 → Fl v v2) → Go X h 877 (lsT X h un it re ve cr2 mo2 k r (Sm9 v) t) (v2, (y + 6, x + 66), (n, m), Rz un it u2 tk)) :
    Go X h 310 (lsD X h un it re ve cr mo k r (Sm9 v) a b n9 kd (n9 % 20)) (v, (y, x), (n, m), Rz un it u tk) := by
  refine Go.inv (fun hV => ?_)
  obtain ⟨c9, hV⟩ := hV
  have hV : INV c9 v := hV
  have hL9 := hL
  obtain ⟨hI, hA, hD, ⟨e1, e2, e3⟩, hc, htk, hu⟩ := hL
  have hT0 := hI.1
  have hM : IM v (T + 31) (E + 102300) := hI.mono (by omega) (by omega) (by omega) (by omega)
  have u8 : 0 ≤ v 8 0 ∧ v 8 0 ≤ T := hI.2 8 0
  have u6 : 0 ≤ v 6 0 ∧ v 6 0 ≤ 20 := hI.2 6 0
  have u7 : 0 ≤ v 7 0 ∧ v 7 0 ≤ 6 := hI.2 7 0
  have u5 : 0 ≤ v 5 0 ∧ v 5 0 ≤ 30 := hI.2 5 0
  have u1 : 0 ≤ v 1 0 ∧ v 1 0 ≤ 5 := hI.2 1 0
  have u33 : ∀ o, 0 ≤ v 33 o ∧ v 33 o ≤ 4 := fun o => hI.2 33 o
  have h34 := hV.2.2.1.2.2.2.2.2
  have hw := w_enqueue (X := X) (h := h) (y := y) (x := x) (n := n) (m := m) (R := Rz un it u tk) hN hI (a := a) ⟨by omega, by omega⟩
  have hI2 := i_enqueue (a := a) hM ⟨by omega, by omega⟩ (by omega)
  rcases x_enqueue a v with ⟨z, z2, F⟩ | ⟨z, e, e7, e39⟩
  · obtain ⟨t, et, t0, t1⟩ := qc_f (cod := cod_enqueue) (p := f_enqueue a v) (by omega) (fun k => by unfold cod_enqueue; first | (repeat' split) <;> omega | omega)
    rw [et] at hw
    obtain ⟨w', q9, kk⟩ := K _ cr mo t (u) (hL9.fl hI2 F) ⟨by omega, by omega⟩ (fun _ => F)
    refine ⟨w', q9, ?_⟩
    unfold lsD
    refine Wv.iload dL_law_310 rfl ?_
    refine Wi.if_ne_t (tgt := 372) dL_law_312 (by decide) ⟨by omega, by omega⟩ (by omega) ?_
    refine Wv.iload dL_law_372 rfl ?_
    refine Wi.const dL_law_374 ?_
    refine Wi.icmp_ge_t (tgt := 396) dL_law_375 (by decide) ⟨by omega, by omega⟩ ⟨by omega, by omega⟩ (by omega) ?_
    refine Wv.iload dL_law_396 rfl ?_
    refine Wv.bipush (v := i32 8) dL_law_398 (by decide) ?_
    refine Wi.icmp_ge_t (tgt := 485) dL_law_400 (by decide) ⟨by omega, by omega⟩ ⟨by omega, by omega⟩ (by omega) ?_
    refine Wv.iload dL_law_485 rfl ?_
    refine Wv.bipush (v := i32 11) dL_law_487 (by decide) ?_
    refine Wi.icmp_ge_f (tgt := 537) dL_law_489 (by decide) ⟨by omega, by omega⟩ ⟨by omega, by omega⟩ (by omega) ?_
    refine Wv.aload_n (i := 1) dL_law_492 rfl rfl ?_
    refine Wv.iload dL_law_493 rfl ?_
    refine Wv.callH (As := [_, _]) (v := some _) k_L_enqueue (tb3 (i := 151) rfl) ki_L_enqueue dL_law_495 rfl rfl (Nat.le_of_ble_eq_true rfl) (Nat.le_of_ble_eq_true rfl) hw ?_
    refine Wv.istore dL_law_498 (by decide) rfl ?_
    refine Wv.iload dL_law_500 rfl ?_
    refine Wi.if_lt_t (tgt := 527) dL_law_502 (by decide) ⟨by omega, by omega⟩ (by omega) ?_
    refine Wi.const dL_law_527 ?_
    refine Wv.goto (tgt := 532) dL_law_528 (by decide) ?_
    refine Wv.istore dL_law_532 (by decide) rfl ?_
    refine Wv.goto (tgt := 877) dL_law_534 (by decide) ?_
    exact Wv.more (by omega) (by omega) (Wv.fin kk ⟨rfl, rfl, rfl, rfl, rfl, rfl, rfl, rfl, rfl, rfl, rfl, rfl, rfl, trivial⟩)
  · rw [qc_v z, e] at hw
    obtain ⟨w', q9, kk⟩ := K _ cr mo (v 7 0 + 1) (u) (hL9.fr hI2 (fun k hk i => fr_enqueue k i (by omega))) ⟨by omega, by omega⟩ (fun q => absurd q (by omega))
    refine ⟨w', q9, ?_⟩
    unfold lsD
    refine Wv.iload dL_law_310 rfl ?_
    refine Wi.if_ne_t (tgt := 372) dL_law_312 (by decide) ⟨by omega, by omega⟩ (by omega) ?_
    refine Wv.iload dL_law_372 rfl ?_
    refine Wi.const dL_law_374 ?_
    refine Wi.icmp_ge_t (tgt := 396) dL_law_375 (by decide) ⟨by omega, by omega⟩ ⟨by omega, by omega⟩ (by omega) ?_
    refine Wv.iload dL_law_396 rfl ?_
    refine Wv.bipush (v := i32 8) dL_law_398 (by decide) ?_
    refine Wi.icmp_ge_t (tgt := 485) dL_law_400 (by decide) ⟨by omega, by omega⟩ ⟨by omega, by omega⟩ (by omega) ?_
    refine Wv.iload dL_law_485 rfl ?_
    refine Wv.bipush (v := i32 11) dL_law_487 (by decide) ?_
    refine Wi.icmp_ge_f (tgt := 537) dL_law_489 (by decide) ⟨by omega, by omega⟩ ⟨by omega, by omega⟩ (by omega) ?_
    refine Wv.aload_n (i := 1) dL_law_492 rfl rfl ?_
    refine Wv.iload dL_law_493 rfl ?_
    refine Wv.callH (As := [_, _]) (v := some _) k_L_enqueue (tb3 (i := 151) rfl) ki_L_enqueue dL_law_495 rfl rfl (Nat.le_of_ble_eq_true rfl) (Nat.le_of_ble_eq_true rfl) hw ?_
    refine Wv.istore dL_law_498 (by decide) rfl ?_
    refine Wv.iload dL_law_500 rfl ?_
    refine Wi.if_lt_f (tgt := 527) dL_law_502 (by decide) ⟨by omega, by omega⟩ (by omega) ?_
    refine Wv.iload dL_law_505 rfl ?_
    refine Wv.aload_n (i := 1) dL_law_507 rfl rfl ?_
    refine Wv.callV (As := []) (v := some _) k_X10_queued (tb1 (i := 221) rfl) ki_X10_queued kv_X10_queued dL_law_508 rfl rfl (Nat.le_of_ble_eq_true rfl) (Nat.le_of_ble_eq_true rfl) (w_queued hI2) ?_
    rw [e7]
    refine Wi.icmp_ne_f (tgt := 531) dL_law_511 (by decide) ⟨by omega, by omega⟩ ⟨by omega, by omega⟩ (by omega) ?_
    refine Wv.aload_n (i := 1) dL_law_514 rfl rfl ?_
    refine Wv.iload dL_law_515 rfl ?_
    refine Wi.const dL_law_517 ?_
    refine Wi.sub dL_law_518 ?_
    refine Wv.callH (As := [_, _]) (v := some _) k_L_queuedAt (tb3 (i := 173) rfl) ki_L_queuedAt dL_law_519 rfl rfl (Nat.le_of_ble_eq_true rfl) (Nat.le_of_ble_eq_true rfl) (n_queuedAt (s := a) hN hI2 ⟨by omega, by rw [e7]; omega⟩ (by rw [show v 7 0 + 1 - 1 = v 7 0 by omega]; exact e39)) ?_
    refine Wv.iload dL_law_522 rfl ?_
    refine Wi.icmp_ne_f (tgt := 531) dL_law_524 (by decide) ⟨by omega, by omega⟩ ⟨by omega, by omega⟩ (by omega) ?_
    refine Wi.const dL_law_527 ?_
    refine Wv.goto (tgt := 532) dL_law_528 (by decide) ?_
    refine Wv.istore dL_law_532 (by decide) rfl ?_
    refine Wv.goto (tgt := 877) dL_law_534 (by decide) ?_
    exact Wv.more (by omega) (by omega) (Wv.fin kk ⟨rfl, rfl, rfl, rfl, rfl, rfl, rfl, rfl, rfl, rfl, rfl, rfl, rfl, trivial⟩)
theorem q_withdraw {X : Cx} {h un it : Nat} {v : Vw} {T E re ve cr mo k r y x a b n9 kd : Int} {u tk : Int → Int} {n m : Nat} (hN : KN X) (hL : LI v T E re ve cr mo u tk) (hT : T + 31 ≤ 20000) (hE : E + 102300 ≤ 1000000000) (ha : 0 ≤ a ∧ a ≤ 4) (hb : 0 ≤ b ∧ b ≤ 8) (hn : 0 ≤ n9 ∧ n9 < 1000)  (hk : kd = 11)
    (K : ∀ (v2 : Vw) (cr2 mo2 t : Int) (u2 : Int → Int), LI v2 (T + 31) (E + 102300) re ve cr2 mo2 u2 tk → R32 t → (t < 0 → Fl v v2) → Go X h 877 (lsT X h un it re ve cr2 mo2 k r (Sm9 v) t) (v2, (y + 6, x + 66), (n, m), Rz un it u2 tk)) :
    Go X h 310 (lsD X h un it re ve cr mo k r (Sm9 v) a b n9 kd (n9 % 20)) (v, (y, x), (n, m), Rz un it u tk) := by
  refine Go.inv (fun hV => ?_)
  obtain ⟨c9, hV⟩ := hV
  have hV : INV c9 v := hV
  have hL9 := hL
  obtain ⟨hI, hA, hD, ⟨e1, e2, e3⟩, hc, htk, hu⟩ := hL
  have hT0 := hI.1
  have hM : IM v (T + 31) (E + 102300) := hI.mono (by omega) (by omega) (by omega) (by omega)
  have u8 : 0 ≤ v 8 0 ∧ v 8 0 ≤ T := hI.2 8 0
  have u6 : 0 ≤ v 6 0 ∧ v 6 0 ≤ 20 := hI.2 6 0
  have u7 : 0 ≤ v 7 0 ∧ v 7 0 ≤ 6 := hI.2 7 0
  have u5 : 0 ≤ v 5 0 ∧ v 5 0 ≤ 30 := hI.2 5 0
  have u1 : 0 ≤ v 1 0 ∧ v 1 0 ≤ 5 := hI.2 1 0
  have u33 : ∀ o, 0 ≤ v 33 o ∧ v 33 o ≤ 4 := fun o => hI.2 33 o
  have h34 := hV.2.2.1.2.2.2.2.2
  have hw := w_withdraw (X := X) (h := h) (y := y) (x := x) (n := n) (m := m) (R := Rz un it u tk) hN hI (a := n9 % 6) ⟨by omega, by omega⟩
  have hI2 := i_withdraw (i := n9 % 6) hM ⟨by omega, by omega⟩
  rcases x_withdraw (n9 % 6) v with ⟨z, F⟩ | z
  · obtain ⟨t, et, t0, t1⟩ := qc_f (cod := cod_withdraw) (p := f_withdraw (n9 % 6) v) (by omega) (fun k => by unfold cod_withdraw; first | (repeat' split) <;> omega | omega)
    rw [et] at hw
    obtain ⟨w', q9, kk⟩ := K _ cr mo t (u) (hL9.fl hI2 F) ⟨by omega, by omega⟩ (fun _ => F)
    refine ⟨w', q9, ?_⟩
    unfold lsD
    refine Wv.iload dL_law_310 rfl ?_
    refine Wi.if_ne_t (tgt := 372) dL_law_312 (by decide) ⟨by omega, by omega⟩ (by omega) ?_
    refine Wv.iload dL_law_372 rfl ?_
    refine Wi.const dL_law_374 ?_
    refine Wi.icmp_ge_t (tgt := 396) dL_law_375 (by decide) ⟨by omega, by omega⟩ ⟨by omega, by omega⟩ (by omega) ?_
    refine Wv.iload dL_law_396 rfl ?_
    refine Wv.bipush (v := i32 8) dL_law_398 (by decide) ?_
    refine Wi.icmp_ge_t (tgt := 485) dL_law_400 (by decide) ⟨by omega, by omega⟩ ⟨by omega, by omega⟩ (by omega) ?_
    refine Wv.iload dL_law_485 rfl ?_
    refine Wv.bipush (v := i32 11) dL_law_487 (by decide) ?_
    refine Wi.icmp_ge_t (tgt := 537) dL_law_489 (by decide) ⟨by omega, by omega⟩ ⟨by omega, by omega⟩ (by omega) ?_
    refine Wv.iload dL_law_537 rfl ?_
    refine Wv.bipush (v := i32 11) dL_law_539 (by decide) ?_
    refine Wi.icmp_ne_f (tgt := 558) dL_law_541 (by decide) ⟨by omega, by omega⟩ ⟨by omega, by omega⟩ (by omega) ?_
    refine Wv.aload_n (i := 1) dL_law_544 rfl rfl ?_
    refine Wv.iload dL_law_545 rfl ?_
    refine Wv.bipush (v := i32 6) dL_law_547 (by decide) ?_
    refine Wi.rem (by omega) ⟨by omega, by omega⟩ (by omega) ⟨by omega, by omega⟩ dL_law_549 ?_
    refine Wv.callH (As := [_, _]) (v := some _) k_L_withdraw (tb3 (i := 159) rfl) ki_L_withdraw dL_law_550 rfl rfl (Nat.le_of_ble_eq_true rfl) (Nat.le_of_ble_eq_true rfl) hw ?_
    refine Wv.istore dL_law_553 (by decide) rfl ?_
    refine Wv.goto (tgt := 877) dL_law_555 (by decide) ?_
    exact Wv.more (by omega) (by omega) (Wv.fin kk ⟨rfl, rfl, rfl, rfl, rfl, rfl, rfl, rfl, rfl, rfl, rfl, rfl, rfl, trivial⟩)
  · rw [qc_v z] at hw
    have t0 : 0 ≤ (f_withdraw (n9 % 6) v).1 ∧ R32 (f_withdraw (n9 % 6) v).1 := by
      have u39 : ∀ i, 0 ≤ v 39 i ∧ v 39 i ≤ 4 := fun i => hI.2 39 i
      have tk9 : ∀ (was : Int), 0 ≤ was ∧ was ≤ 4 → ∀ (n : Nat) (k : Int) (v : Vw), 0 ≤ (l_takesOut_11 was n k v).1 ∧ (l_takesOut_11 was n k v).1 ≤ 4 := by
        intro was hw n
        induction n with
        | zero => exact fun _ _ => ⟨Int.le_refl 0, by show (0 : Int) ≤ 4; decide⟩
        | succ n ih =>
          intro k v
          rw [l_takesOut_11]
          split
          · exact hw
          · exact ih _ _
      unfold f_withdraw
      split
      · exact ⟨by show (0 : Int) ≤ 0; decide, by show R32 0; exact ⟨by decide, by decide⟩⟩
      · have g := tk9 ((upv v 0 0 0) 39 (n9 % 6)) (u39 _) (((upv v 0 0 0) 7 0 - (n9 % 6 + 1)).toNat + 1) (n9 % 6 + 1) (upv v 0 0 0)
        unfold f_takesOut
        exact ⟨g.1, by show R32 _; exact ⟨by omega, by omega⟩⟩
    obtain ⟨w', q9, kk⟩ := K _ cr mo ((f_withdraw (n9 % 6) v).1) (u) (hL9.fr hI2 (fun k hk i => fr_withdraw k i (by omega))) t0.2 (fun q => absurd q (by have := t0.1; omega))
    refine ⟨w', q9, ?_⟩
    unfold lsD
    refine Wv.iload dL_law_310 rfl ?_
    refine Wi.if_ne_t (tgt := 372) dL_law_312 (by decide) ⟨by omega, by omega⟩ (by omega) ?_
    refine Wv.iload dL_law_372 rfl ?_
    refine Wi.const dL_law_374 ?_
    refine Wi.icmp_ge_t (tgt := 396) dL_law_375 (by decide) ⟨by omega, by omega⟩ ⟨by omega, by omega⟩ (by omega) ?_
    refine Wv.iload dL_law_396 rfl ?_
    refine Wv.bipush (v := i32 8) dL_law_398 (by decide) ?_
    refine Wi.icmp_ge_t (tgt := 485) dL_law_400 (by decide) ⟨by omega, by omega⟩ ⟨by omega, by omega⟩ (by omega) ?_
    refine Wv.iload dL_law_485 rfl ?_
    refine Wv.bipush (v := i32 11) dL_law_487 (by decide) ?_
    refine Wi.icmp_ge_t (tgt := 537) dL_law_489 (by decide) ⟨by omega, by omega⟩ ⟨by omega, by omega⟩ (by omega) ?_
    refine Wv.iload dL_law_537 rfl ?_
    refine Wv.bipush (v := i32 11) dL_law_539 (by decide) ?_
    refine Wi.icmp_ne_f (tgt := 558) dL_law_541 (by decide) ⟨by omega, by omega⟩ ⟨by omega, by omega⟩ (by omega) ?_
    refine Wv.aload_n (i := 1) dL_law_544 rfl rfl ?_
    refine Wv.iload dL_law_545 rfl ?_
    refine Wv.bipush (v := i32 6) dL_law_547 (by decide) ?_
    refine Wi.rem (by omega) ⟨by omega, by omega⟩ (by omega) ⟨by omega, by omega⟩ dL_law_549 ?_
    refine Wv.callH (As := [_, _]) (v := some _) k_L_withdraw (tb3 (i := 159) rfl) ki_L_withdraw dL_law_550 rfl rfl (Nat.le_of_ble_eq_true rfl) (Nat.le_of_ble_eq_true rfl) hw ?_
    refine Wv.istore dL_law_553 (by decide) rfl ?_
    refine Wv.goto (tgt := 877) dL_law_555 (by decide) ?_
    exact Wv.more (by omega) (by omega) (Wv.fin kk ⟨rfl, rfl, rfl, rfl, rfl, rfl, rfl, rfl, rfl, rfl, rfl, rfl, rfl, trivial⟩)
theorem q_order {X : Cx} {h un it : Nat} {v : Vw} {T E re ve cr mo k r y x a b n9 kd : Int} {u tk : Int → Int} {n m : Nat} (hN : KN X) (hL : LI v T E re ve cr mo u tk) (hT : T + 31 ≤ 20000) (hE : E + 102300 ≤ 1000000000) (ha : 0 ≤ a ∧ a ≤ 4) (hb : 0 ≤ b ∧ b ≤ 8) (hn : 0 ≤ n9 ∧ n9 < 1000)  (hk : 13 ≤ kd ∧ kd < 16)
    (K : ∀ (v2 : Vw) (cr2 mo2 t : Int) (u2 : Int → Int), LI v2 (T + 31) (E + 102300) re ve cr2 mo2 u2 tk → R32 t → (t < 0 → Fl v v2) → Go X h 877 (lsT X h un it re ve cr2 mo2 k r (Sm9 v) t) (v2, (y + 6, x + 66), (n, m), Rz un it u2 tk)) :
    Go X h 310 (lsD X h un it re ve cr mo k r (Sm9 v) a b n9 kd (n9 % 20)) (v, (y, x), (n, m), Rz un it u tk) := by
  refine Go.inv (fun hV => ?_)
  obtain ⟨c9, hV⟩ := hV
  have hV : INV c9 v := hV
  have hL9 := hL
  obtain ⟨hI, hA, hD, ⟨e1, e2, e3⟩, hc, htk, hu⟩ := hL
  have hT0 := hI.1
  have hM : IM v (T + 31) (E + 102300) := hI.mono (by omega) (by omega) (by omega) (by omega)
  have u8 : 0 ≤ v 8 0 ∧ v 8 0 ≤ T := hI.2 8 0
  have u6 : 0 ≤ v 6 0 ∧ v 6 0 ≤ 20 := hI.2 6 0
  have u7 : 0 ≤ v 7 0 ∧ v 7 0 ≤ 6 := hI.2 7 0
  have u5 : 0 ≤ v 5 0 ∧ v 5 0 ≤ 30 := hI.2 5 0
  have u1 : 0 ≤ v 1 0 ∧ v 1 0 ≤ 5 := hI.2 1 0
  have u33 : ∀ o, 0 ≤ v 33 o ∧ v 33 o ≤ 4 := fun o => hI.2 33 o
  have h34 := hV.2.2.1.2.2.2.2.2
  have hw := w_order (X := X) (h := h) (y := y) (x := x) (n := n) (m := m) (R := Rz un it u tk) hN hI (a := a) (b := n9 % 41) (f := v 8 0 + n9 % 100) ⟨by omega, by omega⟩ ⟨by omega, by omega⟩ ⟨by omega, by omega⟩
  have z33 := (h34 (v 6 0) (Int.le_refl _)).1
  have hI2 := i_order (a := a) (b := n9 % 41) (c := v 8 0 + n9 % 100) hM ⟨by omega, by omega⟩ ⟨by omega, by omega⟩ ⟨by omega, by omega⟩ z33
  have hO := PO.of hI (PP.of hV.2.1)
  have pw := pw_order (a := a) (b := n9 % 41) (d := v 8 0 + n9 % 100) hA hD hO h34 (fun o => (u33 o).2)
  rcases x_order a (n9 % 41) (v 8 0 + n9 % 100) v with ⟨z, z2, F⟩ | ⟨z, e, hr1, hr2, hr3, ew⟩
  · obtain ⟨t, et, t0, t1⟩ := qc_f (cod := cod_order) (p := f_order a (n9 % 41) (v 8 0 + n9 % 100) v) (by omega) (fun k => by unfold cod_order; first | (repeat' split) <;> omega | omega)
    rw [et] at hw
    obtain ⟨w', q9, kk⟩ := K _ cr mo t (u) (hL9.fl hI2 F) ⟨by omega, by omega⟩ (fun _ => F)
    refine ⟨w', q9, ?_⟩
    unfold lsD
    refine Wv.iload dL_law_310 rfl ?_
    refine Wi.if_ne_t (tgt := 372) dL_law_312 (by decide) ⟨by omega, by omega⟩ (by omega) ?_
    refine Wv.iload dL_law_372 rfl ?_
    refine Wi.const dL_law_374 ?_
    refine Wi.icmp_ge_t (tgt := 396) dL_law_375 (by decide) ⟨by omega, by omega⟩ ⟨by omega, by omega⟩ (by omega) ?_
    refine Wv.iload dL_law_396 rfl ?_
    refine Wv.bipush (v := i32 8) dL_law_398 (by decide) ?_
    refine Wi.icmp_ge_t (tgt := 485) dL_law_400 (by decide) ⟨by omega, by omega⟩ ⟨by omega, by omega⟩ (by omega) ?_
    refine Wv.iload dL_law_485 rfl ?_
    refine Wv.bipush (v := i32 11) dL_law_487 (by decide) ?_
    refine Wi.icmp_ge_t (tgt := 537) dL_law_489 (by decide) ⟨by omega, by omega⟩ ⟨by omega, by omega⟩ (by omega) ?_
    refine Wv.iload dL_law_537 rfl ?_
    refine Wv.bipush (v := i32 11) dL_law_539 (by decide) ?_
    refine Wi.icmp_ne_t (tgt := 558) dL_law_541 (by decide) ⟨by omega, by omega⟩ ⟨by omega, by omega⟩ (by omega) ?_
    refine Wv.iload dL_law_558 rfl ?_
    refine Wv.bipush (v := i32 12) dL_law_560 (by decide) ?_
    refine Wi.icmp_ne_t (tgt := 655) dL_law_562 (by decide) ⟨by omega, by omega⟩ ⟨by omega, by omega⟩ (by omega) ?_
    refine Wv.iload dL_law_655 rfl ?_
    refine Wv.bipush (v := i32 16) dL_law_657 (by decide) ?_
    refine Wi.icmp_ge_f (tgt := 703) dL_law_659 (by decide) ⟨by omega, by omega⟩ ⟨by omega, by omega⟩ (by omega) ?_
    refine Wv.aload_n (i := 1) dL_law_662 rfl rfl ?_
    refine Wv.iload dL_law_663 rfl ?_
    refine Wv.iload dL_law_665 rfl ?_
    refine Wv.bipush (v := i32 41) dL_law_667 (by decide) ?_
    refine Wi.rem (by omega) ⟨by omega, by omega⟩ (by omega) ⟨by omega, by omega⟩ dL_law_669 ?_
    refine Wv.aload_n (i := 1) dL_law_670 rfl rfl ?_
    refine Wv.callV (As := []) (v := some _) k_X10_day (tb1 (i := 234) rfl) ki_X10_day kv_X10_day dL_law_671 rfl rfl (Nat.le_of_ble_eq_true rfl) (Nat.le_of_ble_eq_true rfl) w_day ?_
    refine Wv.iload dL_law_674 rfl ?_
    refine Wv.bipush (v := i32 100) dL_law_676 (by decide) ?_
    refine Wi.rem (by omega) ⟨by omega, by omega⟩ (by omega) ⟨by omega, by omega⟩ dL_law_678 ?_
    refine Wi.add dL_law_679 ?_
    refine Wv.callH (As := [_, _, _, _]) (v := some _) k_L_order (tb5 (i := 80) rfl) ki_L_order dL_law_680 rfl rfl (Nat.le_of_ble_eq_true rfl) (Nat.le_of_ble_eq_true rfl) hw ?_
    refine Wv.istore dL_law_683 (by decide) rfl ?_
    refine Wv.iload dL_law_685 rfl ?_
    refine Wi.if_lt_t (tgt := 877) dL_law_687 (by decide) ⟨by omega, by omega⟩ (by omega) ?_
    exact Wv.more (by omega) (by omega) (Wv.fin kk ⟨rfl, rfl, rfl, rfl, rfl, rfl, rfl, rfl, rfl, rfl, rfl, rfl, rfl, trivial⟩)
  · rw [qc_v z, e] at hw
    obtain ⟨Q, f6, f34, f33, f37⟩ := ord_f ew z33
    have L2 : LI (f_order a (n9 % 41) (v 8 0 + n9 % 100) v).2 (T + 31) (E + 102300) re ve cr mo (fun j => if j = v 6 0 then n9 % 41 else u j) tk := by
      refine ⟨hI2, pw.1, pw.2, ⟨by rw [Q 1 (by decide), e1], by rw [Q 2 (by decide), e2], by rw [Q 3 (by decide), e3]⟩, hc, fun j j0 j1 => by rw [Q 20 (by decide)]; exact htk j j0 j1, fun o o0 o1 => ?_⟩
      rw [f6] at o1
      show (if o = v 6 0 then n9 % 41 else u o) = _
      by_cases c : o = v 6 0
      · subst c
        rw [if_pos rfl]
        exact (osm_new z33 (by rw [f33, if_pos rfl]) (by rw [f37, if_pos rfl])).symm
      · rw [if_neg c, hu o o0 (by omega)]
        refine (osm_congr (by rw [f33, if_neg c]) (fun j j0 j1 => ?_)).symm
        have := u33 o
        rw [f37, if_neg (by omega)]
    obtain ⟨w', q9, kk⟩ := K _ cr mo (v 6 0) (fun j => if j = v 6 0 then n9 % 41 else u j) L2 ⟨by omega, by omega⟩ (fun q => absurd q (by omega))
    refine ⟨w', q9, ?_⟩
    unfold lsD
    refine Wv.iload dL_law_310 rfl ?_
    refine Wi.if_ne_t (tgt := 372) dL_law_312 (by decide) ⟨by omega, by omega⟩ (by omega) ?_
    refine Wv.iload dL_law_372 rfl ?_
    refine Wi.const dL_law_374 ?_
    refine Wi.icmp_ge_t (tgt := 396) dL_law_375 (by decide) ⟨by omega, by omega⟩ ⟨by omega, by omega⟩ (by omega) ?_
    refine Wv.iload dL_law_396 rfl ?_
    refine Wv.bipush (v := i32 8) dL_law_398 (by decide) ?_
    refine Wi.icmp_ge_t (tgt := 485) dL_law_400 (by decide) ⟨by omega, by omega⟩ ⟨by omega, by omega⟩ (by omega) ?_
    refine Wv.iload dL_law_485 rfl ?_
    refine Wv.bipush (v := i32 11) dL_law_487 (by decide) ?_
    refine Wi.icmp_ge_t (tgt := 537) dL_law_489 (by decide) ⟨by omega, by omega⟩ ⟨by omega, by omega⟩ (by omega) ?_
    refine Wv.iload dL_law_537 rfl ?_
    refine Wv.bipush (v := i32 11) dL_law_539 (by decide) ?_
    refine Wi.icmp_ne_t (tgt := 558) dL_law_541 (by decide) ⟨by omega, by omega⟩ ⟨by omega, by omega⟩ (by omega) ?_
    refine Wv.iload dL_law_558 rfl ?_
    refine Wv.bipush (v := i32 12) dL_law_560 (by decide) ?_
    refine Wi.icmp_ne_t (tgt := 655) dL_law_562 (by decide) ⟨by omega, by omega⟩ ⟨by omega, by omega⟩ (by omega) ?_
    refine Wv.iload dL_law_655 rfl ?_
    refine Wv.bipush (v := i32 16) dL_law_657 (by decide) ?_
    refine Wi.icmp_ge_f (tgt := 703) dL_law_659 (by decide) ⟨by omega, by omega⟩ ⟨by omega, by omega⟩ (by omega) ?_
    refine Wv.aload_n (i := 1) dL_law_662 rfl rfl ?_
    refine Wv.iload dL_law_663 rfl ?_
    refine Wv.iload dL_law_665 rfl ?_
    refine Wv.bipush (v := i32 41) dL_law_667 (by decide) ?_
    refine Wi.rem (by omega) ⟨by omega, by omega⟩ (by omega) ⟨by omega, by omega⟩ dL_law_669 ?_
    refine Wv.aload_n (i := 1) dL_law_670 rfl rfl ?_
    refine Wv.callV (As := []) (v := some _) k_X10_day (tb1 (i := 234) rfl) ki_X10_day kv_X10_day dL_law_671 rfl rfl (Nat.le_of_ble_eq_true rfl) (Nat.le_of_ble_eq_true rfl) w_day ?_
    refine Wv.iload dL_law_674 rfl ?_
    refine Wv.bipush (v := i32 100) dL_law_676 (by decide) ?_
    refine Wi.rem (by omega) ⟨by omega, by omega⟩ (by omega) ⟨by omega, by omega⟩ dL_law_678 ?_
    refine Wi.add dL_law_679 ?_
    refine Wv.callH (As := [_, _, _, _]) (v := some _) k_L_order (tb5 (i := 80) rfl) ki_L_order dL_law_680 rfl rfl (Nat.le_of_ble_eq_true rfl) (Nat.le_of_ble_eq_true rfl) hw ?_
    refine Wv.istore dL_law_683 (by decide) rfl ?_
    refine Wv.iload dL_law_685 rfl ?_
    refine Wi.if_lt_f (tgt := 877) dL_law_687 (by decide) ⟨by omega, by omega⟩ (by omega) ?_
    refine Wv.aload dL_law_690 rfl ?_
    refine Wv.iload dL_law_692 rfl ?_
    refine Wv.iload dL_law_694 rfl ?_
    refine Wv.bipush (v := i32 41) dL_law_696 (by decide) ?_
    refine Wi.rem (by omega) ⟨by omega, by omega⟩ (by omega) ⟨by omega, by omega⟩ dL_law_698 ?_
    refine Wv.iast 0 rfl (by omega) (by omega) (by decide) dL_law_699 ?_
    refine Wv.goto (tgt := 877) dL_law_700 (by decide) ?_
    exact Wv.more (by omega) (by omega) (Wv.fin kk ⟨rfl, rfl, rfl, rfl, rfl, rfl, rfl, rfl, rfl, rfl, rfl, rfl, rfl, trivial⟩)
theorem q_blend {X : Cx} {h un it : Nat} {v : Vw} {T E re ve cr mo k r y x a b n9 kd : Int} {u tk : Int → Int} {n m : Nat} (hN : KN X) (hL : LI v T E re ve cr mo u tk) (hT : T + 31 ≤ 20000) (hE : E + 102300 ≤ 1000000000) (ha : 0 ≤ a ∧ a ≤ 4) (hb : 0 ≤ b ∧ b ≤ 8) (hn : 0 ≤ n9 ∧ n9 < 1000)  (hk : 16 ≤ kd ∧ kd < 18)
    (K : ∀ (v2 : Vw) (cr2 mo2 t : Int) (u2 : Int → Int), LI v2 (T + 31) (E + 102300) re ve cr2 mo2 u2 tk → R32 t → (t < 0 → Fl v v2) → Go X h 877 (lsT X h un it re ve cr2 mo2 k r (Sm9 v) t) (v2, (y + 6, x + 66), (n, m), Rz un it u2 tk)) :
    Go X h 310 (lsD X h un it re ve cr mo k r (Sm9 v) a b n9 kd (n9 % 20)) (v, (y, x), (n, m), Rz un it u tk) := by
  refine Go.inv (fun hV => ?_)
  obtain ⟨c9, hV⟩ := hV
  have hV : INV c9 v := hV
  have hL9 := hL
  obtain ⟨hI, hA, hD, ⟨e1, e2, e3⟩, hc, htk, hu⟩ := hL
  have hT0 := hI.1
  have hM : IM v (T + 31) (E + 102300) := hI.mono (by omega) (by omega) (by omega) (by omega)
  have u8 : 0 ≤ v 8 0 ∧ v 8 0 ≤ T := hI.2 8 0
  have u6 : 0 ≤ v 6 0 ∧ v 6 0 ≤ 20 := hI.2 6 0
  have u7 : 0 ≤ v 7 0 ∧ v 7 0 ≤ 6 := hI.2 7 0
  have u5 : 0 ≤ v 5 0 ∧ v 5 0 ≤ 30 := hI.2 5 0
  have u1 : 0 ≤ v 1 0 ∧ v 1 0 ≤ 5 := hI.2 1 0
  have u33 : ∀ o, 0 ≤ v 33 o ∧ v 33 o ≤ 4 := fun o => hI.2 33 o
  have h34 := hV.2.2.1.2.2.2.2.2
  have hw := w_blend (X := X) (h := h) (y := y) (x := x) (n := n) (m := m) (R := Rz un it u tk) hN hI (a := n9 % 20) (b := a) (f := n9 % 41) ⟨by omega, by omega⟩ ⟨by omega, by omega⟩ ⟨by omega, by omega⟩
  have hI2 := i_blend (a := n9 % 20) (b := a) (c := n9 % 41) hM ⟨by omega, by omega⟩ ⟨by omega, by omega⟩ ⟨by omega, by omega⟩
  have pw := pw_blend (a := n9 % 20) (b := a) (d := n9 % 41) hA hD u33
  rcases x_blend (n9 % 20) a (n9 % 41) v with ⟨z, z2, F⟩ | ⟨z, e, hr1, hr2, hr3, ew⟩
  · obtain ⟨t, et, t0, t1⟩ := qc_f (cod := cod_blend) (p := f_blend (n9 % 20) a (n9 % 41) v) (by omega) (fun k => by unfold cod_blend; first | (repeat' split) <;> omega | omega)
    rw [et] at hw
    obtain ⟨w', q9, kk⟩ := K _ cr mo t (fun j => if j = n9 % 20 then u (n9 % 20) + 0 else u j) (by
      have e9 : (fun j => if j = n9 % 20 then u (n9 % 20) + 0 else u j) = u := funext fun j => by
        by_cases c : j = n9 % 20
        · rw [if_pos c, c]; omega
        · rw [if_neg c]
      rw [e9]
      exact hL9.fl hI2 F) ⟨by omega, by omega⟩ (fun _ => F)
    refine ⟨w', q9, ?_⟩
    unfold lsD
    refine Wv.iload dL_law_310 rfl ?_
    refine Wi.if_ne_t (tgt := 372) dL_law_312 (by decide) ⟨by omega, by omega⟩ (by omega) ?_
    refine Wv.iload dL_law_372 rfl ?_
    refine Wi.const dL_law_374 ?_
    refine Wi.icmp_ge_t (tgt := 396) dL_law_375 (by decide) ⟨by omega, by omega⟩ ⟨by omega, by omega⟩ (by omega) ?_
    refine Wv.iload dL_law_396 rfl ?_
    refine Wv.bipush (v := i32 8) dL_law_398 (by decide) ?_
    refine Wi.icmp_ge_t (tgt := 485) dL_law_400 (by decide) ⟨by omega, by omega⟩ ⟨by omega, by omega⟩ (by omega) ?_
    refine Wv.iload dL_law_485 rfl ?_
    refine Wv.bipush (v := i32 11) dL_law_487 (by decide) ?_
    refine Wi.icmp_ge_t (tgt := 537) dL_law_489 (by decide) ⟨by omega, by omega⟩ ⟨by omega, by omega⟩ (by omega) ?_
    refine Wv.iload dL_law_537 rfl ?_
    refine Wv.bipush (v := i32 11) dL_law_539 (by decide) ?_
    refine Wi.icmp_ne_t (tgt := 558) dL_law_541 (by decide) ⟨by omega, by omega⟩ ⟨by omega, by omega⟩ (by omega) ?_
    refine Wv.iload dL_law_558 rfl ?_
    refine Wv.bipush (v := i32 12) dL_law_560 (by decide) ?_
    refine Wi.icmp_ne_t (tgt := 655) dL_law_562 (by decide) ⟨by omega, by omega⟩ ⟨by omega, by omega⟩ (by omega) ?_
    refine Wv.iload dL_law_655 rfl ?_
    refine Wv.bipush (v := i32 16) dL_law_657 (by decide) ?_
    refine Wi.icmp_ge_t (tgt := 703) dL_law_659 (by decide) ⟨by omega, by omega⟩ ⟨by omega, by omega⟩ (by omega) ?_
    refine Wv.iload dL_law_703 rfl ?_
    refine Wv.bipush (v := i32 18) dL_law_705 (by decide) ?_
    refine Wi.icmp_ge_f (tgt := 750) dL_law_707 (by decide) ⟨by omega, by omega⟩ ⟨by omega, by omega⟩ (by omega) ?_
    refine Wv.aload_n (i := 1) dL_law_710 rfl rfl ?_
    refine Wv.iload dL_law_711 rfl ?_
    refine Wv.iload dL_law_713 rfl ?_
    refine Wv.iload dL_law_715 rfl ?_
    refine Wv.bipush (v := i32 41) dL_law_717 (by decide) ?_
    refine Wi.rem (by omega) ⟨by omega, by omega⟩ (by omega) ⟨by omega, by omega⟩ dL_law_719 ?_
    refine Wv.callH (As := [_, _, _, _]) (v := some _) k_L_blend (tb5 (i := 141) rfl) ki_L_blend dL_law_720 rfl rfl (Nat.le_of_ble_eq_true rfl) (Nat.le_of_ble_eq_true rfl) hw ?_
    refine Wv.istore dL_law_723 (by decide) rfl ?_
    refine Wv.aload dL_law_725 rfl ?_
    refine Wv.iload dL_law_727 rfl ?_
    refine Wv.dup2 dL_law_729 rfl rfl ?_
    refine Wv.iald 0 rfl (by omega) (by omega) (by decide) dL_law_730 ?_
    refine Wv.iload dL_law_731 rfl ?_
    refine Wi.if_ge_f (tgt := 740) dL_law_733 (by decide) ⟨by omega, by omega⟩ (by omega) ?_
    refine Wi.const dL_law_736 ?_
    refine Wv.goto (tgt := 745) dL_law_737 (by decide) ?_
    refine Wi.add dL_law_745 ?_
    refine Wv.iast 0 rfl (by omega) (by omega) (by decide) dL_law_746 ?_
    refine Wv.goto (tgt := 877) dL_law_747 (by decide) ?_
    exact Wv.more (by omega) (by omega) (Wv.fin kk ⟨rfl, rfl, rfl, rfl, rfl, rfl, rfl, rfl, rfl, rfl, rfl, rfl, rfl, trivial⟩)
  · rw [qc_v z, e] at hw
    obtain ⟨Q, f33, f37⟩ := bl_f ew
    obtain ⟨m1, m2⟩ := bl_osm ew u33 hr3
    have v33 := u33 (n9 % 20)
    have L2 : LI (f_blend (n9 % 20) a (n9 % 41) v).2 (T + 31) (E + 102300) re ve cr mo (fun j => if j = n9 % 20 then u (n9 % 20) + n9 % 41 else u j) tk := by
      refine ⟨hI2, pw.1, pw.2, ⟨by rw [Q 1 (by decide), e1], by rw [Q 2 (by decide), e2], by rw [Q 3 (by decide), e3]⟩, hc, fun j j0 j1 => by rw [Q 20 (by decide)]; exact htk j j0 j1, fun o o0 o1 => ?_⟩
      rw [Q 6 (by decide)] at o1
      show (if o = n9 % 20 then u (n9 % 20) + n9 % 41 else u o) = _
      by_cases c : o = n9 % 20
      · subst c
        rw [if_pos rfl, m1, hu _ o0 o1]
      · rw [if_neg c, m2 o c]
        exact hu o o0 o1
    obtain ⟨w', q9, kk⟩ := K _ cr mo (v 33 (n9 % 20) + 1) (fun j => if j = n9 % 20 then u (n9 % 20) + n9 % 41 else u j) L2 ⟨by omega, by omega⟩ (fun q => absurd q (by omega))
    refine ⟨w', q9, ?_⟩
    unfold lsD
    refine Wv.iload dL_law_310 rfl ?_
    refine Wi.if_ne_t (tgt := 372) dL_law_312 (by decide) ⟨by omega, by omega⟩ (by omega) ?_
    refine Wv.iload dL_law_372 rfl ?_
    refine Wi.const dL_law_374 ?_
    refine Wi.icmp_ge_t (tgt := 396) dL_law_375 (by decide) ⟨by omega, by omega⟩ ⟨by omega, by omega⟩ (by omega) ?_
    refine Wv.iload dL_law_396 rfl ?_
    refine Wv.bipush (v := i32 8) dL_law_398 (by decide) ?_
    refine Wi.icmp_ge_t (tgt := 485) dL_law_400 (by decide) ⟨by omega, by omega⟩ ⟨by omega, by omega⟩ (by omega) ?_
    refine Wv.iload dL_law_485 rfl ?_
    refine Wv.bipush (v := i32 11) dL_law_487 (by decide) ?_
    refine Wi.icmp_ge_t (tgt := 537) dL_law_489 (by decide) ⟨by omega, by omega⟩ ⟨by omega, by omega⟩ (by omega) ?_
    refine Wv.iload dL_law_537 rfl ?_
    refine Wv.bipush (v := i32 11) dL_law_539 (by decide) ?_
    refine Wi.icmp_ne_t (tgt := 558) dL_law_541 (by decide) ⟨by omega, by omega⟩ ⟨by omega, by omega⟩ (by omega) ?_
    refine Wv.iload dL_law_558 rfl ?_
    refine Wv.bipush (v := i32 12) dL_law_560 (by decide) ?_
    refine Wi.icmp_ne_t (tgt := 655) dL_law_562 (by decide) ⟨by omega, by omega⟩ ⟨by omega, by omega⟩ (by omega) ?_
    refine Wv.iload dL_law_655 rfl ?_
    refine Wv.bipush (v := i32 16) dL_law_657 (by decide) ?_
    refine Wi.icmp_ge_t (tgt := 703) dL_law_659 (by decide) ⟨by omega, by omega⟩ ⟨by omega, by omega⟩ (by omega) ?_
    refine Wv.iload dL_law_703 rfl ?_
    refine Wv.bipush (v := i32 18) dL_law_705 (by decide) ?_
    refine Wi.icmp_ge_f (tgt := 750) dL_law_707 (by decide) ⟨by omega, by omega⟩ ⟨by omega, by omega⟩ (by omega) ?_
    refine Wv.aload_n (i := 1) dL_law_710 rfl rfl ?_
    refine Wv.iload dL_law_711 rfl ?_
    refine Wv.iload dL_law_713 rfl ?_
    refine Wv.iload dL_law_715 rfl ?_
    refine Wv.bipush (v := i32 41) dL_law_717 (by decide) ?_
    refine Wi.rem (by omega) ⟨by omega, by omega⟩ (by omega) ⟨by omega, by omega⟩ dL_law_719 ?_
    refine Wv.callH (As := [_, _, _, _]) (v := some _) k_L_blend (tb5 (i := 141) rfl) ki_L_blend dL_law_720 rfl rfl (Nat.le_of_ble_eq_true rfl) (Nat.le_of_ble_eq_true rfl) hw ?_
    refine Wv.istore dL_law_723 (by decide) rfl ?_
    refine Wv.aload dL_law_725 rfl ?_
    refine Wv.iload dL_law_727 rfl ?_
    refine Wv.dup2 dL_law_729 rfl rfl ?_
    refine Wv.iald 0 rfl (by omega) (by omega) (by decide) dL_law_730 ?_
    refine Wv.iload dL_law_731 rfl ?_
    refine Wi.if_ge_t (tgt := 740) dL_law_733 (by decide) ⟨by omega, by omega⟩ (by omega) ?_
    refine Wv.iload dL_law_740 rfl ?_
    refine Wv.bipush (v := i32 41) dL_law_742 (by decide) ?_
    refine Wi.rem (by omega) ⟨by omega, by omega⟩ (by omega) ⟨by omega, by omega⟩ dL_law_744 ?_
    refine Wi.add dL_law_745 ?_
    refine Wv.iast 0 rfl (by omega) (by omega) (by decide) dL_law_746 ?_
    refine Wv.goto (tgt := 877) dL_law_747 (by decide) ?_
    exact Wv.more (by omega) (by omega) (Wv.fin kk ⟨rfl, rfl, rfl, rfl, rfl, rfl, rfl, rfl, rfl, rfl, rfl, rfl, rfl, trivial⟩)
theorem q_cancel {X : Cx} {h un it : Nat} {v : Vw} {T E re ve cr mo k r y x a b n9 kd : Int} {u tk : Int → Int} {n m : Nat} (hN : KN X) (hL : LI v T E re ve cr mo u tk) (hT : T + 31 ≤ 20000) (hE : E + 102300 ≤ 1000000000) (ha : 0 ≤ a ∧ a ≤ 4) (hb : 0 ≤ b ∧ b ≤ 8) (hn : 0 ≤ n9 ∧ n9 < 1000)  (hk : kd = 18)
    (K : ∀ (v2 : Vw) (cr2 mo2 t : Int) (u2 : Int → Int), LI v2 (T + 31) (E + 102300) re ve cr2 mo2 u2 tk → R32 t → (t < 0 → Fl v v2) → Go X h 877 (lsT X h un it re ve cr2 mo2 k r (Sm9 v) t) (v2, (y + 6, x + 66), (n, m), Rz un it u2 tk)) :
    Go X h 310 (lsD X h un it re ve cr mo k r (Sm9 v) a b n9 kd (n9 % 20)) (v, (y, x), (n, m), Rz un it u tk) := by
  refine Go.inv (fun hV => ?_)
  obtain ⟨c9, hV⟩ := hV
  have hV : INV c9 v := hV
  have hL9 := hL
  obtain ⟨hI, hA, hD, ⟨e1, e2, e3⟩, hc, htk, hu⟩ := hL
  have hT0 := hI.1
  have hM : IM v (T + 31) (E + 102300) := hI.mono (by omega) (by omega) (by omega) (by omega)
  have u8 : 0 ≤ v 8 0 ∧ v 8 0 ≤ T := hI.2 8 0
  have u6 : 0 ≤ v 6 0 ∧ v 6 0 ≤ 20 := hI.2 6 0
  have u7 : 0 ≤ v 7 0 ∧ v 7 0 ≤ 6 := hI.2 7 0
  have u5 : 0 ≤ v 5 0 ∧ v 5 0 ≤ 30 := hI.2 5 0
  have u1 : 0 ≤ v 1 0 ∧ v 1 0 ≤ 5 := hI.2 1 0
  have u33 : ∀ o, 0 ≤ v 33 o ∧ v 33 o ≤ 4 := fun o => hI.2 33 o
  have h34 := hV.2.2.1.2.2.2.2.2
  have hw := w_cancel (X := X) (h := h) (y := y) (x := x) (n := n) (m := m) (R := Rz un it u tk) hN hI (a := n9 % 20) ⟨by omega, by omega⟩
  have hI2 := i_cancel (a := n9 % 20) hM ⟨by omega, by omega⟩
  have pw := pw_cancel (a := n9 % 20) hA hD (u33 _).1 u6.2
  rcases x_cancel (n9 % 20) v (u33 _).1 with ⟨z, z2, F⟩ | ⟨z, e, hr1, hr2, ew⟩
  · obtain ⟨t, et, t0, t1⟩ := qc_f (cod := cod_cancel) (p := f_cancel (n9 % 20) v) (by omega) (fun k => by unfold cod_cancel; first | (repeat' split) <;> omega | omega)
    rw [et] at hw
    obtain ⟨w', q9, kk⟩ := K _ cr mo t (u) (hL9.fl hI2 F) ⟨by omega, by omega⟩ (fun _ => F)
    refine ⟨w', q9, ?_⟩
    unfold lsD
    refine Wv.iload dL_law_310 rfl ?_
    refine Wi.if_ne_t (tgt := 372) dL_law_312 (by decide) ⟨by omega, by omega⟩ (by omega) ?_
    refine Wv.iload dL_law_372 rfl ?_
    refine Wi.const dL_law_374 ?_
    refine Wi.icmp_ge_t (tgt := 396) dL_law_375 (by decide) ⟨by omega, by omega⟩ ⟨by omega, by omega⟩ (by omega) ?_
    refine Wv.iload dL_law_396 rfl ?_
    refine Wv.bipush (v := i32 8) dL_law_398 (by decide) ?_
    refine Wi.icmp_ge_t (tgt := 485) dL_law_400 (by decide) ⟨by omega, by omega⟩ ⟨by omega, by omega⟩ (by omega) ?_
    refine Wv.iload dL_law_485 rfl ?_
    refine Wv.bipush (v := i32 11) dL_law_487 (by decide) ?_
    refine Wi.icmp_ge_t (tgt := 537) dL_law_489 (by decide) ⟨by omega, by omega⟩ ⟨by omega, by omega⟩ (by omega) ?_
    refine Wv.iload dL_law_537 rfl ?_
    refine Wv.bipush (v := i32 11) dL_law_539 (by decide) ?_
    refine Wi.icmp_ne_t (tgt := 558) dL_law_541 (by decide) ⟨by omega, by omega⟩ ⟨by omega, by omega⟩ (by omega) ?_
    refine Wv.iload dL_law_558 rfl ?_
    refine Wv.bipush (v := i32 12) dL_law_560 (by decide) ?_
    refine Wi.icmp_ne_t (tgt := 655) dL_law_562 (by decide) ⟨by omega, by omega⟩ ⟨by omega, by omega⟩ (by omega) ?_
    refine Wv.iload dL_law_655 rfl ?_
    refine Wv.bipush (v := i32 16) dL_law_657 (by decide) ?_
    refine Wi.icmp_ge_t (tgt := 703) dL_law_659 (by decide) ⟨by omega, by omega⟩ ⟨by omega, by omega⟩ (by omega) ?_
    refine Wv.iload dL_law_703 rfl ?_
    refine Wv.bipush (v := i32 18) dL_law_705 (by decide) ?_
    refine Wi.icmp_ge_t (tgt := 750) dL_law_707 (by decide) ⟨by omega, by omega⟩ ⟨by omega, by omega⟩ (by omega) ?_
    refine Wv.iload dL_law_750 rfl ?_
    refine Wv.bipush (v := i32 18) dL_law_752 (by decide) ?_
    refine Wi.icmp_ne_f (tgt := 801) dL_law_754 (by decide) ⟨by omega, by omega⟩ ⟨by omega, by omega⟩ (by omega) ?_
    refine Wv.aload_n (i := 1) dL_law_757 rfl rfl ?_
    refine Wv.iload dL_law_758 rfl ?_
    refine Wv.callH (As := [_, _]) (v := some _) k_L_cancel (tb5 (i := 155) rfl) ki_L_cancel dL_law_760 rfl rfl (Nat.le_of_ble_eq_true rfl) (Nat.le_of_ble_eq_true rfl) hw ?_
    refine Wv.istore dL_law_763 (by decide) rfl ?_
    refine Wv.iload dL_law_765 rfl ?_
    refine Wi.if_lt_t (tgt := 791) dL_law_767 (by decide) ⟨by omega, by omega⟩ (by omega) ?_
    refine Wi.const dL_law_791 ?_
    refine Wv.goto (tgt := 796) dL_law_792 (by decide) ?_
    refine Wv.istore dL_law_796 (by decide) rfl ?_
    refine Wv.goto (tgt := 877) dL_law_798 (by decide) ?_
    exact Wv.more (by omega) (by omega) (Wv.fin kk ⟨rfl, rfl, rfl, rfl, rfl, rfl, rfl, rfl, rfl, rfl, rfl, rfl, rfl, trivial⟩)
  · rw [qc_v z, e] at hw
    have ob := osm_bd hI (n9 % 20)
    have eu := hu (n9 % 20) hr1.1 hr1.2
    have Q : ∀ k, k ≠ 0 ∧ k ≠ 34 → ∀ i, (f_cancel (n9 % 20) v).2 k i = v k i := fun k hk i => fr_cancel k i hk
    have f34 : (f_cancel (n9 % 20) v).2 34 (n9 % 20) = 99 := by rw [ew]; simp [upv]
    have L2 : LI (f_cancel (n9 % 20) v).2 (T + 31) (E + 102300) re ve cr mo u tk := by
      refine ⟨hI2, pw.1, pw.2, ⟨by rw [Q 1 (by decide), e1], by rw [Q 2 (by decide), e2], by rw [Q 3 (by decide), e3]⟩, hc, fun j j0 j1 => by rw [Q 20 (by decide)]; exact htk j j0 j1, fun o o0 o1 => ?_⟩
      rw [Q 6 (by decide)] at o1
      rw [hu o o0 o1]
      exact (osm_congr (Q 33 (by decide) o) (fun k _ _ => Q 37 (by decide) _)).symm
    obtain ⟨w', q9, kk⟩ := K _ cr mo (osm v (n9 % 20)) (u) L2 ⟨by omega, by omega⟩ (fun q => absurd q (by omega))
    refine ⟨w', q9, ?_⟩
    unfold lsD
    refine Wv.iload dL_law_310 rfl ?_
    refine Wi.if_ne_t (tgt := 372) dL_law_312 (by decide) ⟨by omega, by omega⟩ (by omega) ?_
    refine Wv.iload dL_law_372 rfl ?_
    refine Wi.const dL_law_374 ?_
    refine Wi.icmp_ge_t (tgt := 396) dL_law_375 (by decide) ⟨by omega, by omega⟩ ⟨by omega, by omega⟩ (by omega) ?_
    refine Wv.iload dL_law_396 rfl ?_
    refine Wv.bipush (v := i32 8) dL_law_398 (by decide) ?_
    refine Wi.icmp_ge_t (tgt := 485) dL_law_400 (by decide) ⟨by omega, by omega⟩ ⟨by omega, by omega⟩ (by omega) ?_
    refine Wv.iload dL_law_485 rfl ?_
    refine Wv.bipush (v := i32 11) dL_law_487 (by decide) ?_
    refine Wi.icmp_ge_t (tgt := 537) dL_law_489 (by decide) ⟨by omega, by omega⟩ ⟨by omega, by omega⟩ (by omega) ?_
    refine Wv.iload dL_law_537 rfl ?_
    refine Wv.bipush (v := i32 11) dL_law_539 (by decide) ?_
    refine Wi.icmp_ne_t (tgt := 558) dL_law_541 (by decide) ⟨by omega, by omega⟩ ⟨by omega, by omega⟩ (by omega) ?_
    refine Wv.iload dL_law_558 rfl ?_
    refine Wv.bipush (v := i32 12) dL_law_560 (by decide) ?_
    refine Wi.icmp_ne_t (tgt := 655) dL_law_562 (by decide) ⟨by omega, by omega⟩ ⟨by omega, by omega⟩ (by omega) ?_
    refine Wv.iload dL_law_655 rfl ?_
    refine Wv.bipush (v := i32 16) dL_law_657 (by decide) ?_
    refine Wi.icmp_ge_t (tgt := 703) dL_law_659 (by decide) ⟨by omega, by omega⟩ ⟨by omega, by omega⟩ (by omega) ?_
    refine Wv.iload dL_law_703 rfl ?_
    refine Wv.bipush (v := i32 18) dL_law_705 (by decide) ?_
    refine Wi.icmp_ge_t (tgt := 750) dL_law_707 (by decide) ⟨by omega, by omega⟩ ⟨by omega, by omega⟩ (by omega) ?_
    refine Wv.iload dL_law_750 rfl ?_
    refine Wv.bipush (v := i32 18) dL_law_752 (by decide) ?_
    refine Wi.icmp_ne_f (tgt := 801) dL_law_754 (by decide) ⟨by omega, by omega⟩ ⟨by omega, by omega⟩ (by omega) ?_
    refine Wv.aload_n (i := 1) dL_law_757 rfl rfl ?_
    refine Wv.iload dL_law_758 rfl ?_
    refine Wv.callH (As := [_, _]) (v := some _) k_L_cancel (tb5 (i := 155) rfl) ki_L_cancel dL_law_760 rfl rfl (Nat.le_of_ble_eq_true rfl) (Nat.le_of_ble_eq_true rfl) hw ?_
    refine Wv.istore dL_law_763 (by decide) rfl ?_
    refine Wv.iload dL_law_765 rfl ?_
    refine Wi.if_lt_f (tgt := 791) dL_law_767 (by decide) ⟨by omega, by omega⟩ (by omega) ?_
    refine Wv.iload dL_law_770 rfl ?_
    refine Wv.aload dL_law_772 rfl ?_
    refine Wv.iload dL_law_774 rfl ?_
    refine Wv.iald 0 rfl (by omega) (by omega) (by decide) dL_law_776 ?_
    refine Wi.icmp_ne_f (tgt := 795) dL_law_777 (by decide) ⟨by omega, by omega⟩ ⟨by omega, by omega⟩ (by omega) ?_
    refine Wv.aload_n (i := 1) dL_law_780 rfl rfl ?_
    refine Wv.iload dL_law_781 rfl ?_
    refine Wv.callH (As := [_, _]) (v := some _) k_L_status (tb5 (i := 172) rfl) ki_L_status dL_law_783 rfl rfl (Nat.le_of_ble_eq_true rfl) (Nat.le_of_ble_eq_true rfl) (n_status (s := 99) hN hI2 ⟨by omega, by omega⟩ (by rw [Q 6 (by decide), if_pos hr1.2]; exact f34)) ?_
    refine Wv.bipush (v := i32 99) dL_law_786 (by decide) ?_
    refine Wi.icmp_ne_f (tgt := 795) dL_law_788 (by decide) ⟨by omega, by omega⟩ ⟨by omega, by omega⟩ (by omega) ?_
    refine Wi.const dL_law_791 ?_
    refine Wv.goto (tgt := 796) dL_law_792 (by decide) ?_
    refine Wv.istore dL_law_796 (by decide) rfl ?_
    refine Wv.goto (tgt := 877) dL_law_798 (by decide) ?_
    exact Wv.more (by omega) (by omega) (Wv.fin kk ⟨rfl, rfl, rfl, rfl, rfl, rfl, rfl, rfl, rfl, rfl, rfl, rfl, rfl, trivial⟩)
