/-! the law: its switch and its loop (written by wip/whole/mk83.py) -/
theorem c_onTime {X : Cx} {σ : Hp} {A : Nat → Int → Nat} {c : Cs} {B : Int → Nat} {m0 oL oD : Nat} {v : Vw} {T E i : Int} (hN : KN X) (hL : LW X σ A c B m0 oL oD v) (hV : INV c v) (hI : IM v T E) (hT : T + 31 ≤ 20000) (hE : E + 102300 ≤ 1000000000) :
    ∃ τ A' B', (LW X τ A' (g_X10_onTime c).2 B' m0 oL oD (f_onTime v).2 ∧ INV (g_X10_onTime c).2 (f_onTime v).2 ∧ IM (f_onTime v).2 (T + 31) (E + 102300) ∧ A' 13 0 = A 13 0) ∧ ∀ (o : Rs) (τf : Hp), Ev X m_L_law 30 2228 (lsL X (A 13 0) m0 oL oD i) [] τ o τf → Ev X m_L_law 30 1339 (lsL X (A 13 0) m0 oL oD i) [] σ o τf := by
  have hT0 := hI.1
  have hI2 : IM v (T + 31) E := hI.mono (by omega) (Int.le_refl _) (by omega) (by omega)
  obtain ⟨τ, A2, B2, hC, L1, hV2, e13, hz⟩ := w_onTime hN hL hV hI2
  have I3 : IM (f_onTime v).2 (T + 31) (E + 102300) := (i_onTime hI2).mono (Int.le_refl _) (by omega) (by omega) (by omega)
  have t0 : 0 ≤ (f_onTime v).2 0 0 ∧ (f_onTime v).2 0 0 ≤ 4 := I3.2 0 0
  refine ⟨Hm τ m0 (f_onTime v).2, A2, B2, ⟨L1.mod _, hV2, I3, e13⟩, fun o τf fin => ?_⟩
  refine Ev.aload_n (i := 1) dL_law_1339 rfl rfl ?_
  refine Ev.aload dL_law_1340 rfl ?_
  refine Ev.callSH (As := [_, _]) (v := some (.int (i32 ((f_onTime v).2 0 0)))) k_L_onTime (tb5 (i := 208) rfl) ki_L_onTime dL_law_1342 rfl rfl (by decide) (by decide) hC ?_
  refine Ev.istore dL_law_1345 (by decide) ?_
  refine Ev.hp L1.2.1.2 ?_
  refine Ev.aload_n (i := 2) dL_law_1347 rfl rfl ?_
  refine Em.cv1 (As := []) L1.2.1.1 k_X11_onTime (tb8 (i := 27) rfl) ki_X11_onTime kv_X11_onTime dL_law_1348 rfl rfl (by decide) (by decide) (s_X11_onTime L1.2.1.1 hI2) ?_
  refine Ev.fstore dL_law_1351 (by decide) ?_
  refine Ev.aload_n (i := 2) dL_law_1353 rfl rfl ?_
  refine Em.cv1 (As := []) L1.2.1.1 k_X11_thrown (tb7 (i := 114) rfl) ki_X11_thrown kv_X11_thrown dL_law_1354 rfl rfl (by decide) (by decide) (s_X11_thrown L1.2.1.1 I3) ?_
  refine Ev.iload dL_law_1357 rfl ?_
  refine Ei.icmp_eq_t (tgt := 1364) dL_law_1359 (by decide) (show R32 ((f_onTime v).2 0 0) from ⟨by omega, by omega⟩) (show R32 ((f_onTime v).2 0 0) from ⟨by omega, by omega⟩) rfl ?_
  refine Ev.iload dL_law_1364 rfl ?_
  rcases hz with ⟨z, a, b, hr, e, e2⟩ | z
  · refine Ei.if_ne_f (tgt := 1402) dL_law_1366 (by decide) (show R32 ((f_onTime v).2 0 0) from ⟨by omega, by omega⟩) (fun q => q z) ?_
    refine Ev.aload dL_law_1369 rfl ?_
    refine Ei.const dL_law_1371 ?_
    refine Ev.dald L1.2.2.2.1 (vin0 L1.2.2.2.2) dL_law_1372 ?_
    rw [clamp0, show (Hm τ m0 (f_onTime v).2).dv oD 0 = FP.f2d (FP.fdiv (FP.i2f (i32 a)) (FP.i2f (i32 b))) from e2]
    refine Ev.fload (x := FP.fdiv (FP.i2f (i32 a)) (FP.i2f (i32 b))) dL_law_1373 (by rw [← rat_bits, ← e]; rfl) ?_
    refine Ev.f2d dL_law_1375 (n64_rat hr).1 ?_
    refine Ev.dcmp dL_law_1376 ?_
    rw [(n64_rat hr).2]
    refine Ei.if_eq_t (tgt := 1402) dL_law_1377 (by decide) ⟨by decide, by decide⟩ rfl ?_
    refine Ev.goto (tgt := 2228) dL_law_1402 (by decide) ?_
    exact Ev.fgt (ls' := lsL X (A 13 0) m0 oL oD i) ⟨rfl, ⟨rfl, ⟨rfl, ⟨rfl, ⟨rfl, ⟨rfl, trivial⟩⟩⟩⟩⟩⟩ fin
  · refine Ei.if_ne_t (tgt := 1402) dL_law_1366 (by decide) (show R32 ((f_onTime v).2 0 0) from ⟨by omega, by omega⟩) (by omega) ?_
    refine Ev.goto (tgt := 2228) dL_law_1402 (by decide) ?_
    exact Ev.fgt (ls' := lsL X (A 13 0) m0 oL oD i) ⟨rfl, ⟨rfl, ⟨rfl, ⟨rfl, ⟨rfl, ⟨rfl, trivial⟩⟩⟩⟩⟩⟩ fin
theorem and63 (x : Int32) : 0 ≤ (x &&& i32 63).toInt ∧ (x &&& i32 63).toInt ≤ 63 := by
  have h : (x.toBitVec &&& (i32 63).toBitVec).toNat ≤ 63 := by
    rw [BitVec.toNat_and]
    exact Nat.and_le_right
  have e : (x &&& i32 63).toInt = ((x.toBitVec &&& (i32 63).toBitVec).toNat : Int) := by
    show (x.toBitVec &&& (i32 63).toBitVec).toInt = _
    exact BitVec.toInt_eq_toNat_of_lt (by omega)
  omega
theorem st_refl (c : Cs) : St c c := Kp.st (Kp.refl c)
theorem law_sw {X : Cx} {σ : Hp} {A : Nat → Int → Nat} {c : Cs} {B : Int → Nat} {m0 oL oD : Nat} {v : Vw} {T E i : Int} {x : Int32} (hN : KN X) (hL : LW X σ A c B m0 oL oD v) (hV : INV c v) (hI : IM v T E) (hT : T + 31 ≤ 20000) (hE : E + 102300 ≤ 1000000000) (hi : 0 ≤ i) (hi3 : i + 3 < X.sL) (hs : X.sL ≤ 2048) (hx : 0 ≤ x.toInt ∧ x.toInt ≤ 63) :
    ∃ τ A' c' B' v', (LW X τ A' c' B' m0 oL oD v' ∧ INV c' v' ∧ IM v' (T + 31) (E + 102300) ∧ A' 13 0 = A 13 0 ∧ St c c') ∧ ∀ (o : Rs) (τf : Hp), Ev X m_L_law 30 2228 (lsL X (A 13 0) m0 oL oD i) [] τ o τf → Ev X m_L_law 30 44 (lsL X (A 13 0) m0 oL oD i) [.int x] σ o τf := by
  have hT0 := hI.1
  by_cases z0 : x.toInt = 0
  · obtain ⟨τ, A2, B2, h, F⟩ := c_addRecipe hN hL hV hI hT hE hi hi3 hs
    exact ⟨τ, A2, _, B2, _, ⟨h.1, h.2.1, h.2.2.1, h.2.2.2, (st_addRecipe (sx X i 1) (sx X i 2) (sx X i 3) c)⟩, fun o τf K => Ev.tabIn (tgt := 212) dL_law_44 (by omega) (by omega) (by rw [z0]; rfl) (by decide) (F o τf K)⟩
  by_cases z1 : x.toInt = 1
  · obtain ⟨τ, A2, B2, h, F⟩ := c_addVessel hN hL hV hI hT hE hi hi3 hs
    exact ⟨τ, A2, _, B2, _, ⟨h.1, h.2.1, h.2.2.1, h.2.2.2, (st_addVessel (sc X i 1) c)⟩, fun o τf K => Ev.tabIn (tgt := 292) dL_law_44 (by omega) (by omega) (by rw [z1]; rfl) (by decide) (F o τf K)⟩
  by_cases z2 : x.toInt = 2
  · obtain ⟨τ, A2, B2, h, F⟩ := c_setCrews hN hL hV hI hT hE hi hi3 hs
    exact ⟨τ, A2, _, B2, _, ⟨h.1, h.2.1, h.2.2.1, h.2.2.2, (st_setCrews (sx X i 1) c)⟩, fun o τf K => Ev.tabIn (tgt := 350) dL_law_44 (by omega) (by omega) (by rw [z2]; rfl) (by decide) (F o τf K)⟩
  by_cases z3 : x.toInt = 3
  · obtain ⟨τ, A2, B2, h, F⟩ := c_addPacks hN hL hV hI hT hE hi hi3 hs
    exact ⟨τ, A2, _, B2, _, ⟨h.1, h.2.1, h.2.2.1, h.2.2.2, (st_addPacks (sx X i 1) (sx X i 2) c)⟩, fun o τf K => Ev.tabIn (tgt := 406) dL_law_44 (by omega) (by omega) (by rw [z3]; rfl) (by decide) (F o τf K)⟩
  by_cases z4 : x.toInt = 4
  · obtain ⟨τ, A2, B2, h, F⟩ := c_pitches hN hL hV hI hT hE hi hi3 hs
    exact ⟨τ, A2, _, B2, _, ⟨h.1, h.2.1, h.2.2.1, h.2.2.2, (st_pitches (sx X i 1) c)⟩, fun o τf K => Ev.tabIn (tgt := 474) dL_law_44 (by omega) (by omega) (by rw [z4]; rfl) (by decide) (F o τf K)⟩
  by_cases z5 : x.toInt = 5
  · obtain ⟨τ, A2, B2, h, F⟩ := c_nextGeneration hN hL hV hI hT hE hi hi3 hs
    exact ⟨τ, A2, _, B2, _, ⟨h.1, h.2.1, h.2.2.1, h.2.2.2, (st_nextGeneration (sx X i 1) c)⟩, fun o τf K => Ev.tabIn (tgt := 530) dL_law_44 (by omega) (by omega) (by rw [z5]; rfl) (by decide) (F o τf K)⟩
  by_cases z6 : x.toInt = 6
  · obtain ⟨τ, A2, B2, h, F⟩ := c_brew hN hL hV hI hT hE hi hi3 hs
    exact ⟨τ, A2, _, B2, _, ⟨h.1, h.2.1, h.2.2.1, h.2.2.2, (st_brew (sx X i 1) (sx X i 2) c)⟩, fun o τf K => Ev.tabIn (tgt := 586) dL_law_44 (by omega) (by omega) (by rw [z6]; rfl) (by decide) (F o τf K)⟩
  by_cases z7 : x.toInt = 7
  · obtain ⟨τ, A2, B2, h, F⟩ := c_enqueue hN hL hV hI hT hE hi hi3 hs
    exact ⟨τ, A2, _, B2, _, ⟨h.1, h.2.1, h.2.2.1, h.2.2.2, (st_enqueue (sx X i 1) c)⟩, fun o τf K => Ev.tabIn (tgt := 654) dL_law_44 (by omega) (by omega) (by rw [z7]; rfl) (by decide) (F o τf K)⟩
  by_cases z8 : x.toInt = 8
  · obtain ⟨τ, A2, B2, h, F⟩ := c_withdraw hN hL hV hI hT hE hi hi3 hs
    exact ⟨τ, A2, _, B2, _, ⟨h.1, h.2.1, h.2.2.1, h.2.2.2, (st_withdraw (sx X i 1) c)⟩, fun o τf K => Ev.tabIn (tgt := 710) dL_law_44 (by omega) (by omega) (by rw [z8]; rfl) (by decide) (F o τf K)⟩
  by_cases z9 : x.toInt = 9
  · obtain ⟨τ, A2, B2, h, F⟩ := c_queued (i := i) hL hV hI hT hE
    exact ⟨τ, A2, _, B2, _, ⟨h.1, h.2.1, h.2.2.1, h.2.2.2, (st_refl c)⟩, fun o τf K => Ev.tabIn (tgt := 766) dL_law_44 (by omega) (by omega) (by rw [z9]; rfl) (by decide) (F o τf K)⟩
  by_cases z10 : x.toInt = 10
  · obtain ⟨τ, A2, B2, h, F⟩ := c_queuedAt hN hL hV hI hT hE hi hi3 hs
    exact ⟨τ, A2, _, B2, _, ⟨h.1, h.2.1, h.2.2.1, h.2.2.2, (st_queuedAt (sx X i 1) c)⟩, fun o τf K => Ev.tabIn (tgt := 779) dL_law_44 (by omega) (by omega) (by rw [z10]; rfl) (by decide) (F o τf K)⟩
  by_cases z11 : x.toInt = 11
  · obtain ⟨τ, A2, B2, h, F⟩ := c_forecast hN hL hV hI hT hE hi hi3 hs
    exact ⟨τ, A2, _, B2, _, ⟨h.1, h.2.1, h.2.2.1, h.2.2.2, (st_forecast hV hI)⟩, fun o τf K => Ev.tabIn (tgt := 835) dL_law_44 (by omega) (by omega) (by rw [z11]; rfl) (by decide) (F o τf K)⟩
  by_cases z12 : x.toInt = 12
  · obtain ⟨τ, A2, B2, h, F⟩ := c_bestForecast hN hL hV hI hT hE hi hi3 hs
    exact ⟨τ, A2, _, B2, _, ⟨h.1, h.2.1, h.2.2.1, h.2.2.2, (st_bestForecast hV hI)⟩, fun o τf K => Ev.tabIn (tgt := 879) dL_law_44 (by omega) (by omega) (by rw [z12]; rfl) (by decide) (F o τf K)⟩
  by_cases z13 : x.toInt = 13
  · obtain ⟨τ, A2, B2, h, F⟩ := c_bestForecastByTrying hN hL hV hI hT hE hi hi3 hs
    exact ⟨τ, A2, _, B2, _, ⟨h.1, h.2.1, h.2.2.1, h.2.2.2, (st_bestForecastByTrying hV hI)⟩, fun o τf K => Ev.tabIn (tgt := 923) dL_law_44 (by omega) (by omega) (by rw [z13]; rfl) (by decide) (F o τf K)⟩
  by_cases z14 : x.toInt = 14
  · obtain ⟨τ, A2, B2, h, F⟩ := c_improve hN hL hV hI hT hE hi hi3 hs
    exact ⟨τ, A2, _, B2, _, ⟨h.1, h.2.1, h.2.2.1, h.2.2.2, (st_improve hV hI)⟩, fun o τf K => Ev.tabIn (tgt := 967) dL_law_44 (by omega) (by omega) (by rw [z14]; rfl) (by decide) (F o τf K)⟩
  by_cases z15 : x.toInt = 15
  · obtain ⟨τ, A2, B2, h, F⟩ := c_order hN hL hV hI hT hE hi hi3 hs
    exact ⟨τ, A2, _, B2, _, ⟨h.1, h.2.1, h.2.2.1, h.2.2.2, (st_order (sx X i 1) (sx X i 2) (sx X i 3) c)⟩, fun o τf K => Ev.tabIn (tgt := 1011) dL_law_44 (by omega) (by omega) (by rw [z15]; rfl) (by decide) (F o τf K)⟩
  by_cases z16 : x.toInt = 16
  · obtain ⟨τ, A2, B2, h, F⟩ := c_blend hN hL hV hI hT hE hi hi3 hs
    exact ⟨τ, A2, _, B2, _, ⟨h.1, h.2.1, h.2.2.1, h.2.2.2, (st_blend (sx X i 1) (sx X i 2) (sx X i 3) c)⟩, fun o τf K => Ev.tabIn (tgt := 1091) dL_law_44 (by omega) (by omega) (by rw [z16]; rfl) (by decide) (F o τf K)⟩
  by_cases z17 : x.toInt = 17
  · obtain ⟨τ, A2, B2, h, F⟩ := c_cancel hN hL hV hI hT hE hi hi3 hs
    exact ⟨τ, A2, _, B2, _, ⟨h.1, h.2.1, h.2.2.1, h.2.2.2, (st_cancel (sx X i 1) c)⟩, fun o τf K => Ev.tabIn (tgt := 1171) dL_law_44 (by omega) (by omega) (by rw [z17]; rfl) (by decide) (F o τf K)⟩
  by_cases z18 : x.toInt = 18
  · obtain ⟨τ, A2, B2, h, F⟩ := c_status hN hL hV hI hT hE hi hi3 hs
    exact ⟨τ, A2, _, B2, _, ⟨h.1, h.2.1, h.2.2.1, h.2.2.2, (st_status (sx X i 1) c)⟩, fun o τf K => Ev.tabIn (tgt := 1227) dL_law_44 (by omega) (by omega) (by rw [z18]; rfl) (by decide) (F o τf K)⟩
  by_cases z19 : x.toInt = 19
  · obtain ⟨τ, A2, B2, h, F⟩ := c_filledOn hN hL hV hI hT hE hi hi3 hs
    exact ⟨τ, A2, _, B2, _, ⟨h.1, h.2.1, h.2.2.1, h.2.2.2, (st_filledOn (sx X i 1) c)⟩, fun o τf K => Ev.tabIn (tgt := 1283) dL_law_44 (by omega) (by omega) (by rw [z19]; rfl) (by decide) (F o τf K)⟩
  by_cases z20 : x.toInt = 20
  · obtain ⟨τ, A2, B2, h, F⟩ := c_onTime (i := i) hN hL hV hI hT hE
    exact ⟨τ, A2, _, B2, _, ⟨h.1, h.2.1, h.2.2.1, h.2.2.2, (st_onTime c)⟩, fun o τf K => Ev.tabIn (tgt := 1339) dL_law_44 (by omega) (by omega) (by rw [z20]; rfl) (by decide) (F o τf K)⟩
  by_cases z21 : x.toInt = 21
  · obtain ⟨τ, A2, B2, h, F⟩ := c_pass hN hL hV hI hT hE hi hi3 hs
    exact ⟨τ, A2, _, B2, _, ⟨h.1, h.2.1, h.2.2.1, h.2.2.2, (st_pass (sx X i 1) c)⟩, fun o τf K => Ev.tabIn (tgt := 1405) dL_law_44 (by omega) (by omega) (by rw [z21]; rfl) (by decide) (F o τf K)⟩
  by_cases z22 : x.toInt = 22
  · obtain ⟨τ, A2, B2, h, F⟩ := c_day (i := i) hL hV hI hT hE
    exact ⟨τ, A2, _, B2, _, ⟨h.1, h.2.1, h.2.2.1, h.2.2.2, (st_refl c)⟩, fun o τf K => Ev.tabIn (tgt := 1461) dL_law_44 (by omega) (by omega) (by rw [z22]; rfl) (by decide) (F o τf K)⟩
  by_cases z23 : x.toInt = 23
  · obtain ⟨τ, A2, B2, h, F⟩ := c_state hN hL hV hI hT hE hi hi3 hs
    exact ⟨τ, A2, _, B2, _, ⟨h.1, h.2.1, h.2.2.1, h.2.2.2, (st_state (sx X i 1) c)⟩, fun o τf K => Ev.tabIn (tgt := 1474) dL_law_44 (by omega) (by omega) (by rw [z23]; rfl) (by decide) (F o τf K)⟩
  by_cases z24 : x.toInt = 24
  · obtain ⟨τ, A2, B2, h, F⟩ := c_brewIn hN hL hV hI hT hE hi hi3 hs
    exact ⟨τ, A2, _, B2, _, ⟨h.1, h.2.1, h.2.2.1, h.2.2.2, (st_brewIn (sx X i 1) c)⟩, fun o τf K => Ev.tabIn (tgt := 1530) dL_law_44 (by omega) (by omega) (by rw [z24]; rfl) (by decide) (F o τf K)⟩
  by_cases z25 : x.toInt = 25
  · obtain ⟨τ, A2, B2, h, F⟩ := c_cleanDay hN hL hV hI hT hE hi hi3 hs
    exact ⟨τ, A2, _, B2, _, ⟨h.1, h.2.1, h.2.2.1, h.2.2.2, (st_cleanDay (sx X i 1) c)⟩, fun o τf K => Ev.tabIn (tgt := 1586) dL_law_44 (by omega) (by omega) (by rw [z25]; rfl) (by decide) (F o τf K)⟩
  by_cases z26 : x.toInt = 26
  · obtain ⟨τ, A2, B2, h, F⟩ := c_brews (i := i) hL hV hI hT hE
    exact ⟨τ, A2, _, B2, _, ⟨h.1, h.2.1, h.2.2.1, h.2.2.2, (st_refl c)⟩, fun o τf K => Ev.tabIn (tgt := 1642) dL_law_44 (by omega) (by omega) (by rw [z26]; rfl) (by decide) (F o τf K)⟩
  by_cases z27 : x.toInt = 27
  · obtain ⟨τ, A2, B2, h, F⟩ := c_recipeOf hN hL hV hI hT hE hi hi3 hs
    exact ⟨τ, A2, _, B2, _, ⟨h.1, h.2.1, h.2.2.1, h.2.2.2, (st_recipeOf (sx X i 1) c)⟩, fun o τf K => Ev.tabIn (tgt := 1655) dL_law_44 (by omega) (by omega) (by rw [z27]; rfl) (by decide) (F o τf K)⟩
  by_cases z28 : x.toInt = 28
  · obtain ⟨τ, A2, B2, h, F⟩ := c_generation hN hL hV hI hT hE hi hi3 hs
    exact ⟨τ, A2, _, B2, _, ⟨h.1, h.2.1, h.2.2.1, h.2.2.2, (st_generation (sx X i 1) c)⟩, fun o τf K => Ev.tabIn (tgt := 1711) dL_law_44 (by omega) (by omega) (by rw [z28]; rfl) (by decide) (F o τf K)⟩
  by_cases z29 : x.toInt = 29
  · obtain ⟨τ, A2, B2, h, F⟩ := c_stage hN hL hV hI hT hE hi hi3 hs
    exact ⟨τ, A2, _, B2, _, ⟨h.1, h.2.1, h.2.2.1, h.2.2.2, (st_stage (sx X i 1) c)⟩, fun o τf K => Ev.tabIn (tgt := 1767) dL_law_44 (by omega) (by omega) (by rw [z29]; rfl) (by decide) (F o τf K)⟩
  by_cases z30 : x.toInt = 30
  · obtain ⟨τ, A2, B2, h, F⟩ := c_vesselOf hN hL hV hI hT hE hi hi3 hs
    exact ⟨τ, A2, _, B2, _, ⟨h.1, h.2.1, h.2.2.1, h.2.2.2, (st_vesselOf (sx X i 1) c)⟩, fun o τf K => Ev.tabIn (tgt := 1823) dL_law_44 (by omega) (by omega) (by rw [z30]; rfl) (by decide) (F o τf K)⟩
  by_cases z31 : x.toInt = 31
  · obtain ⟨τ, A2, B2, h, F⟩ := c_daysToGo hN hL hV hI hT hE hi hi3 hs
    exact ⟨τ, A2, _, B2, _, ⟨h.1, h.2.1, h.2.2.1, h.2.2.2, (st_daysToGo (sx X i 1) c)⟩, fun o τf K => Ev.tabIn (tgt := 1879) dL_law_44 (by omega) (by omega) (by rw [z31]; rfl) (by decide) (F o τf K)⟩
  by_cases z32 : x.toInt = 32
  · obtain ⟨τ, A2, B2, h, F⟩ := c_stock hN hL hV hI hT hE hi hi3 hs
    exact ⟨τ, A2, _, B2, _, ⟨h.1, h.2.1, h.2.2.1, h.2.2.2, (st_stock (sx X i 1) c)⟩, fun o τf K => Ev.tabIn (tgt := 1935) dL_law_44 (by omega) (by omega) (by rw [z32]; rfl) (by decide) (F o τf K)⟩
  by_cases z33 : x.toInt = 33
  · obtain ⟨τ, A2, B2, h, F⟩ := c_stockByDeliveries hN hL hV hI hT hE hi hi3 hs
    exact ⟨τ, A2, _, B2, _, ⟨h.1, h.2.1, h.2.2.1, h.2.2.2, (st_stockByDeliveries (sx X i 1) c)⟩, fun o τf K => Ev.tabIn (tgt := 1991) dL_law_44 (by omega) (by omega) (by rw [z33]; rfl) (by decide) (F o τf K)⟩
  by_cases z34 : x.toInt = 34
  · obtain ⟨τ, A2, B2, h, F⟩ := c_deliveries (i := i) hL hV hI hT hE
    exact ⟨τ, A2, _, B2, _, ⟨h.1, h.2.1, h.2.2.1, h.2.2.2, (st_refl c)⟩, fun o τf K => Ev.tabIn (tgt := 2047) dL_law_44 (by omega) (by omega) (by rw [z34]; rfl) (by decide) (F o τf K)⟩
  by_cases z35 : x.toInt = 35
  · obtain ⟨τ, A2, B2, h, F⟩ := c_deliveredBrew hN hL hV hI hT hE hi hi3 hs
    exact ⟨τ, A2, _, B2, _, ⟨h.1, h.2.1, h.2.2.1, h.2.2.2, (st_deliveredBrew (sx X i 1) c)⟩, fun o τf K => Ev.tabIn (tgt := 2060) dL_law_44 (by omega) (by omega) (by rw [z35]; rfl) (by decide) (F o τf K)⟩
  by_cases z36 : x.toInt = 36
  · obtain ⟨τ, A2, B2, h, F⟩ := c_deliveredOrder hN hL hV hI hT hE hi hi3 hs
    exact ⟨τ, A2, _, B2, _, ⟨h.1, h.2.1, h.2.2.1, h.2.2.2, (st_deliveredOrder (sx X i 1) c)⟩, fun o τf K => Ev.tabIn (tgt := 2116) dL_law_44 (by omega) (by omega) (by rw [z36]; rfl) (by decide) (F o τf K)⟩
  by_cases z37 : x.toInt = 37
  · obtain ⟨τ, A2, B2, h, F⟩ := c_deliveredUnits hN hL hV hI hT hE hi hi3 hs
    exact ⟨τ, A2, _, B2, _, ⟨h.1, h.2.1, h.2.2.1, h.2.2.2, (st_deliveredUnits (sx X i 1) c)⟩, fun o τf K => Ev.tabIn (tgt := 2172) dL_law_44 (by omega) (by omega) (by rw [z37]; rfl) (by decide) (F o τf K)⟩
  refine ⟨σ, A, c, B, v, ⟨hL, hV, hI.mono (by omega) (by omega) (by omega) (by omega), rfl, st_refl c⟩, fun o τf K => Ev.tabOut (tgt := 2228) dL_law_44 (Or.inr (by omega)) (by decide) K⟩
theorem ofNat_i32 (n : Nat) : Int32.ofNat n = i32 (n : Int) := by
  unfold i32
  first | rfl | (rw [Int32.ofInt_eq_ofNat]) | simp
theorem law_loop {X : Cx} {m0 oL oD : Nat} (hN : KN X) (hs : X.sL ≤ 2048) : ∀ (N : Nat) (i : Int) (σ : Hp) (A : Nat → Int → Nat) (c : Cs) (B : Int → Nat) (v : Vw) (T E : Int), LW X σ A c B m0 oL oD v → INV c v → IM v T E → 0 ≤ i → i ≤ 2056 → ((X.sL : Int) - i).toNat < 4 * N → T + 31 * (N : Int) ≤ 20000 → E + 102300 * (N : Int) ≤ 1000000000 → c.1 6 + (N : Int) ≤ 1000 → c.2.2.2 + (N : Int) ≤ 1000 →
    ∃ τ A' c' B' v' T' E', (LW X τ A' c' B' m0 oL oD v' ∧ INV c' v' ∧ IM v' T' E' ∧ c'.1 6 ≤ 1000 ∧ c'.2.2.2 ≤ 1000) ∧ Ev X m_L_law 30 28 (lsL X (A 13 0) m0 oL oD i) [] σ (.inl (some (.int (i32 1)))) τ := by
  intro N
  induction N with
  | zero => exact fun _ _ _ _ _ _ _ _ _ _ _ _ _ h => absurd h (Nat.not_lt_zero _)
  | succ N ih =>
    intro i σ A c B v T E hL hV hI h0 h1 hm hT hE h6 hx
    have hT0 := hI.1
    -- the head
    have head : ∀ (o : Rs) (τ : Hp), ((X.sL : Int) - 4 < i → Ev X m_L_law 30 2234 (lsL X (A 13 0) m0 oL oD i) [] σ o τ) → (¬ (X.sL : Int) - 4 < i → Ev X m_L_law 30 37 (lsL X (A 13 0) m0 oL oD i) [] σ o τ) → Ev X m_L_law 30 28 (lsL X (A 13 0) m0 oL oD i) [] σ o τ := fun o τ k1 k2 => by
      refine Ev.iload dL_law_28 rfl ?_
      refine Ev.aload_n (i := 0) dL_law_30 rfl rfl ?_
      refine Ev.slen dL_law_31 ?_
      rw [ofNat_i32]
      refine Ei.const dL_law_32 ?_
      refine Ei.sub dL_law_33 ?_
      exact Ei.icmp_gt (tgt := 2234) dL_law_34 (by decide) ⟨by omega, by omega⟩ ⟨by omega, by omega⟩ k1 k2
    by_cases c1 : (X.sL : Int) - 4 < i
    · refine ⟨σ, A, c, B, v, T, E, ⟨hL, hV, hI, by omega, by omega⟩, head _ _ (fun _ => ?_) (fun q => absurd c1 q)⟩
      refine Ei.const dL_law_2234 ?_
      exact Ev.iret rfl rfl dL_law_2235
    · obtain ⟨τ, A2, c2, B2, v2, ⟨L2, V2, I2, e13, st⟩, F⟩ := law_sw (x := X.xs (i32 i).toNatClampNeg &&& i32 63) (i := i) hN hL hV hI (by omega) (by omega) h0 (by omega) hs (and63 _)
      obtain ⟨τf, A3, c3, B3, v3, T3, E3, g1, g2⟩ := ih (i + 4) τ A2 c2 B2 v2 (T + 31) (E + 102300) L2 V2 I2 (by omega) (by omega) (by omega) (by omega) (by omega) (by have := st.1; omega) (by have := st.2; omega)
      refine ⟨τf, A3, c3, B3, v3, T3, E3, g1, head _ _ (fun q => absurd q c1) (fun _ => ?_)⟩
      refine Ev.aload_n (i := 0) dL_law_37 rfl rfl ?_
      refine Ev.iload dL_law_38 rfl ?_
      refine Ev.sld (i32_vin h0 (by omega) (by omega)) dL_law_40 ?_
      refine Ev.bipush (v := i32 63) dL_law_41 (by decide) ?_
      refine Ev.iand dL_law_43 ?_
      refine F _ _ ?_
      refine Ei.inc dL_law_2228 rfl (by decide) ?_
      refine Ev.goto (tgt := 28) dL_law_2231 (by decide) ?_
      rw [e13] at g2
      exact g2
