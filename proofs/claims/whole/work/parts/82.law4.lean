/-! the law: its cases, on (written by wip/whole/mk81.py) -/
theorem c_status {X : Cx} {σ : Hp} {A : Nat → Int → Nat} {c : Cs} {B : Int → Nat} {m0 oL oD : Nat} {v : Vw} {T E i : Int} (hN : KN X) (hL : LW X σ A c B m0 oL oD v) (hV : INV c v) (hI : IM v T E) (hT : T + 31 ≤ 20000) (hE : E + 102300 ≤ 1000000000) (hi : 0 ≤ i) (hi3 : i + 3 < X.sL) (hs : X.sL ≤ 2048) :
    ∃ τ A' B', (LW X τ A' (g_X10_status (sx X i 1) c).2 B' m0 oL oD (f_status (sx X i 1) v).2 ∧ INV (g_X10_status (sx X i 1) c).2 (f_status (sx X i 1) v).2 ∧ IM (f_status (sx X i 1) v).2 (T + 31) (E + 102300) ∧ A' 13 0 = A 13 0) ∧ ∀ (o : Rs) (τf : Hp), Ev X m_L_law 30 2228 (lsL X (A 13 0) m0 oL oD i) [] τ o τf → Ev X m_L_law 30 1227 (lsL X (A 13 0) m0 oL oD i) [] σ o τf := by
  have hT0 := hI.1
  have hI2 : IM v (T + 31) E := hI.mono (by omega) (Int.le_refl _) (by omega) (by omega)
  obtain ⟨τ, A2, B2, hC, L1, hV2, e13, hz⟩ := w_status hN hL hV hI2 (sx_r X i 1)
  have I3 : IM (f_status (sx X i 1) v).2 (T + 31) (E + 102300) := (i_status hI2 (sx_r X i 1)).mono (Int.le_refl _) (by omega) (by omega) (by omega)
  have t0 : 0 ≤ (f_status (sx X i 1) v).2 0 0 ∧ (f_status (sx X i 1) v).2 0 0 ≤ 4 := I3.2 0 0
  refine ⟨Hm τ m0 (f_status (sx X i 1) v).2, A2, B2, ⟨L1.mod _, hV2, I3, e13⟩, fun o τf fin => ?_⟩
  refine Ev.aload_n (i := 1) dL_law_1227 rfl rfl ?_
  refine Ev.aload_n (i := 0) dL_law_1228 rfl rfl ?_
  refine Ev.iload dL_law_1229 rfl ?_
  refine Ei.const dL_law_1231 ?_
  refine Ei.add dL_law_1232 ?_
  refine Ev.rdS (by omega) (by omega) hs dL_law_1233 ?_
  refine Ev.aload_n (i := 3) dL_law_1234 rfl rfl ?_
  refine Ev.callSH (As := [_, _, _]) (v := some (.int (i32 ((f_status (sx X i 1) v).2 0 0)))) k_L_status (tb5 (i := 193) rfl) ki_L_status dL_law_1235 rfl rfl (by decide) (by decide) hC ?_
  refine Ev.istore dL_law_1238 (by decide) ?_
  refine Ev.hp L1.2.1.2 ?_
  refine Ev.aload_n (i := 2) dL_law_1240 rfl rfl ?_
  refine Ev.aload_n (i := 0) dL_law_1241 rfl rfl ?_
  refine Ev.iload dL_law_1242 rfl ?_
  refine Ei.const dL_law_1244 ?_
  refine Ei.add dL_law_1245 ?_
  refine Ev.rdS (by omega) (by omega) hs dL_law_1246 ?_
  refine Em.cv1 (As := [_]) L1.2.1.1 k_X11_status (tb8 (i := 19) rfl) ki_X11_status kv_X11_status dL_law_1247 rfl rfl (by decide) (by decide) (s_X11_status L1.2.1.1 hI2 (sx_r X i 1)) ?_
  refine Ev.istore dL_law_1250 (by decide) ?_
  refine Ev.aload_n (i := 2) dL_law_1252 rfl rfl ?_
  refine Em.cv1 (As := []) L1.2.1.1 k_X11_thrown (tb7 (i := 114) rfl) ki_X11_thrown kv_X11_thrown dL_law_1253 rfl rfl (by decide) (by decide) (s_X11_thrown L1.2.1.1 I3) ?_
  refine Ev.iload dL_law_1256 rfl ?_
  refine Ei.icmp_eq_t (tgt := 1263) dL_law_1258 (by decide) (show R32 ((f_status (sx X i 1) v).2 0 0) from ⟨by omega, by omega⟩) (show R32 ((f_status (sx X i 1) v).2 0 0) from ⟨by omega, by omega⟩) rfl ?_
  refine Ev.iload dL_law_1263 rfl ?_
  by_cases z : (f_status (sx X i 1) v).2 0 0 = 0
  · refine Ei.if_ne_f (tgt := 1280) dL_law_1265 (by decide) (show R32 ((f_status (sx X i 1) v).2 0 0) from ⟨by omega, by omega⟩) (fun q => q z) ?_
    refine Ev.aload_n (i := 3) dL_law_1268 rfl rfl ?_
    refine Ei.const dL_law_1269 ?_
    refine Ev.lald L1.2.2.1.1 (vin0 L1.2.2.1.2) dL_law_1270 ?_
    rw [clamp0, show (Hm τ m0 (f_status (sx X i 1) v).2).lv oL 0 = (i32 (f_status (sx X i 1) v).1).toInt64 from hz z]
    refine Ev.iload dL_law_1271 rfl ?_
    refine Ev.i2l dL_law_1273 rfl ?_
    refine Ev.lcmp dL_law_1274 ?_
    rw [lcmp_s]
    refine Ei.if_eq_t (tgt := 1280) dL_law_1275 (by decide) ⟨by decide, by decide⟩ rfl ?_
    refine Ev.goto (tgt := 2228) dL_law_1280 (by decide) ?_
    exact Ev.fgt (ls' := lsL X (A 13 0) m0 oL oD i) ⟨rfl, ⟨rfl, ⟨rfl, ⟨rfl, ⟨rfl, ⟨rfl, trivial⟩⟩⟩⟩⟩⟩ fin
  · refine Ei.if_ne_t (tgt := 1280) dL_law_1265 (by decide) (show R32 ((f_status (sx X i 1) v).2 0 0) from ⟨by omega, by omega⟩) z ?_
    refine Ev.goto (tgt := 2228) dL_law_1280 (by decide) ?_
    exact Ev.fgt (ls' := lsL X (A 13 0) m0 oL oD i) ⟨rfl, ⟨rfl, ⟨rfl, ⟨rfl, ⟨rfl, ⟨rfl, trivial⟩⟩⟩⟩⟩⟩ fin
theorem c_filledOn {X : Cx} {σ : Hp} {A : Nat → Int → Nat} {c : Cs} {B : Int → Nat} {m0 oL oD : Nat} {v : Vw} {T E i : Int} (hN : KN X) (hL : LW X σ A c B m0 oL oD v) (hV : INV c v) (hI : IM v T E) (hT : T + 31 ≤ 20000) (hE : E + 102300 ≤ 1000000000) (hi : 0 ≤ i) (hi3 : i + 3 < X.sL) (hs : X.sL ≤ 2048) :
    ∃ τ A' B', (LW X τ A' (g_X10_filledOn (sx X i 1) c).2 B' m0 oL oD (f_filledOn (sx X i 1) v).2 ∧ INV (g_X10_filledOn (sx X i 1) c).2 (f_filledOn (sx X i 1) v).2 ∧ IM (f_filledOn (sx X i 1) v).2 (T + 31) (E + 102300) ∧ A' 13 0 = A 13 0) ∧ ∀ (o : Rs) (τf : Hp), Ev X m_L_law 30 2228 (lsL X (A 13 0) m0 oL oD i) [] τ o τf → Ev X m_L_law 30 1283 (lsL X (A 13 0) m0 oL oD i) [] σ o τf := by
  have hT0 := hI.1
  have hI2 : IM v (T + 31) E := hI.mono (by omega) (Int.le_refl _) (by omega) (by omega)
  obtain ⟨τ, A2, B2, hC, L1, hV2, e13, hz⟩ := w_filledOn hN hL hV hI2 (sx_r X i 1)
  have I3 : IM (f_filledOn (sx X i 1) v).2 (T + 31) (E + 102300) := (i_filledOn hI2 (sx_r X i 1)).mono (Int.le_refl _) (by omega) (by omega) (by omega)
  have t0 : 0 ≤ (f_filledOn (sx X i 1) v).2 0 0 ∧ (f_filledOn (sx X i 1) v).2 0 0 ≤ 4 := I3.2 0 0
  refine ⟨Hm τ m0 (f_filledOn (sx X i 1) v).2, A2, B2, ⟨L1.mod _, hV2, I3, e13⟩, fun o τf fin => ?_⟩
  refine Ev.aload_n (i := 1) dL_law_1283 rfl rfl ?_
  refine Ev.aload_n (i := 0) dL_law_1284 rfl rfl ?_
  refine Ev.iload dL_law_1285 rfl ?_
  refine Ei.const dL_law_1287 ?_
  refine Ei.add dL_law_1288 ?_
  refine Ev.rdS (by omega) (by omega) hs dL_law_1289 ?_
  refine Ev.aload_n (i := 3) dL_law_1290 rfl rfl ?_
  refine Ev.callSH (As := [_, _, _]) (v := some (.int (i32 ((f_filledOn (sx X i 1) v).2 0 0)))) k_L_filledOn (tb5 (i := 200) rfl) ki_L_filledOn dL_law_1291 rfl rfl (by decide) (by decide) hC ?_
  refine Ev.istore dL_law_1294 (by decide) ?_
  refine Ev.hp L1.2.1.2 ?_
  refine Ev.aload_n (i := 2) dL_law_1296 rfl rfl ?_
  refine Ev.aload_n (i := 0) dL_law_1297 rfl rfl ?_
  refine Ev.iload dL_law_1298 rfl ?_
  refine Ei.const dL_law_1300 ?_
  refine Ei.add dL_law_1301 ?_
  refine Ev.rdS (by omega) (by omega) hs dL_law_1302 ?_
  refine Em.cv1 (As := [_]) L1.2.1.1 k_X11_filledOn (tb8 (i := 23) rfl) ki_X11_filledOn kv_X11_filledOn dL_law_1303 rfl rfl (by decide) (by decide) (s_X11_filledOn L1.2.1.1 hI2 (sx_r X i 1)) ?_
  refine Ev.istore dL_law_1306 (by decide) ?_
  refine Ev.aload_n (i := 2) dL_law_1308 rfl rfl ?_
  refine Em.cv1 (As := []) L1.2.1.1 k_X11_thrown (tb7 (i := 114) rfl) ki_X11_thrown kv_X11_thrown dL_law_1309 rfl rfl (by decide) (by decide) (s_X11_thrown L1.2.1.1 I3) ?_
  refine Ev.iload dL_law_1312 rfl ?_
  refine Ei.icmp_eq_t (tgt := 1319) dL_law_1314 (by decide) (show R32 ((f_filledOn (sx X i 1) v).2 0 0) from ⟨by omega, by omega⟩) (show R32 ((f_filledOn (sx X i 1) v).2 0 0) from ⟨by omega, by omega⟩) rfl ?_
  refine Ev.iload dL_law_1319 rfl ?_
  by_cases z : (f_filledOn (sx X i 1) v).2 0 0 = 0
  · refine Ei.if_ne_f (tgt := 1336) dL_law_1321 (by decide) (show R32 ((f_filledOn (sx X i 1) v).2 0 0) from ⟨by omega, by omega⟩) (fun q => q z) ?_
    refine Ev.aload_n (i := 3) dL_law_1324 rfl rfl ?_
    refine Ei.const dL_law_1325 ?_
    refine Ev.lald L1.2.2.1.1 (vin0 L1.2.2.1.2) dL_law_1326 ?_
    rw [clamp0, show (Hm τ m0 (f_filledOn (sx X i 1) v).2).lv oL 0 = (i32 (f_filledOn (sx X i 1) v).1).toInt64 from hz z]
    refine Ev.iload dL_law_1327 rfl ?_
    refine Ev.i2l dL_law_1329 rfl ?_
    refine Ev.lcmp dL_law_1330 ?_
    rw [lcmp_s]
    refine Ei.if_eq_t (tgt := 1336) dL_law_1331 (by decide) ⟨by decide, by decide⟩ rfl ?_
    refine Ev.goto (tgt := 2228) dL_law_1336 (by decide) ?_
    exact Ev.fgt (ls' := lsL X (A 13 0) m0 oL oD i) ⟨rfl, ⟨rfl, ⟨rfl, ⟨rfl, ⟨rfl, ⟨rfl, trivial⟩⟩⟩⟩⟩⟩ fin
  · refine Ei.if_ne_t (tgt := 1336) dL_law_1321 (by decide) (show R32 ((f_filledOn (sx X i 1) v).2 0 0) from ⟨by omega, by omega⟩) z ?_
    refine Ev.goto (tgt := 2228) dL_law_1336 (by decide) ?_
    exact Ev.fgt (ls' := lsL X (A 13 0) m0 oL oD i) ⟨rfl, ⟨rfl, ⟨rfl, ⟨rfl, ⟨rfl, ⟨rfl, trivial⟩⟩⟩⟩⟩⟩ fin
theorem c_pass {X : Cx} {σ : Hp} {A : Nat → Int → Nat} {c : Cs} {B : Int → Nat} {m0 oL oD : Nat} {v : Vw} {T E i : Int} (hN : KN X) (hL : LW X σ A c B m0 oL oD v) (hV : INV c v) (hI : IM v T E) (hT : T + 31 ≤ 20000) (hE : E + 102300 ≤ 1000000000) (hi : 0 ≤ i) (hi3 : i + 3 < X.sL) (hs : X.sL ≤ 2048) :
    ∃ τ A' B', (LW X τ A' (g_X10_pass (sx X i 1) c).2 B' m0 oL oD (f_pass (sx X i 1) v).2 ∧ INV (g_X10_pass (sx X i 1) c).2 (f_pass (sx X i 1) v).2 ∧ IM (f_pass (sx X i 1) v).2 (T + 31) (E + 102300) ∧ A' 13 0 = A 13 0) ∧ ∀ (o : Rs) (τf : Hp), Ev X m_L_law 30 2228 (lsL X (A 13 0) m0 oL oD i) [] τ o τf → Ev X m_L_law 30 1405 (lsL X (A 13 0) m0 oL oD i) [] σ o τf := by
  have hT0 := hI.1
  have hI2 : IM v (T + 31) E := hI.mono (by omega) (Int.le_refl _) (by omega) (by omega)
  have u8 : 0 ≤ v 8 0 ∧ v 8 0 ≤ T := hI.2 8 0
  obtain ⟨τ, A2, B2, hC, L1, hV2, e13, hz⟩ := w_pass hN hL hV hI2 (sx_r X i 1) (by omega) hE
  have I3 : IM (f_pass (sx X i 1) v).2 (T + 31) (E + 102300) := (i_pass hI2 (sx_r X i 1) hV.2.2.1 hV.2.2.2 (by omega) hE).mono (Int.le_refl _) (by omega) (by omega) (by omega)
  have t0 : 0 ≤ (f_pass (sx X i 1) v).2 0 0 ∧ (f_pass (sx X i 1) v).2 0 0 ≤ 4 := I3.2 0 0
  refine ⟨Hm τ m0 (f_pass (sx X i 1) v).2, A2, B2, ⟨L1.mod _, hV2, I3, e13⟩, fun o τf fin => ?_⟩
  refine Ev.aload_n (i := 1) dL_law_1405 rfl rfl ?_
  refine Ev.aload_n (i := 0) dL_law_1406 rfl rfl ?_
  refine Ev.iload dL_law_1407 rfl ?_
  refine Ei.const dL_law_1409 ?_
  refine Ei.add dL_law_1410 ?_
  refine Ev.rdS (by omega) (by omega) hs dL_law_1411 ?_
  refine Ev.aload_n (i := 3) dL_law_1412 rfl rfl ?_
  refine Ev.callSH (As := [_, _, _]) (v := some (.int (i32 ((f_pass (sx X i 1) v).2 0 0)))) k_L_pass (tb5 (i := 216) rfl) ki_L_pass dL_law_1413 rfl rfl (by decide) (by decide) hC ?_
  refine Ev.istore dL_law_1416 (by decide) ?_
  refine Ev.hp L1.2.1.2 ?_
  refine Ev.aload_n (i := 2) dL_law_1418 rfl rfl ?_
  refine Ev.aload_n (i := 0) dL_law_1419 rfl rfl ?_
  refine Ev.iload dL_law_1420 rfl ?_
  refine Ei.const dL_law_1422 ?_
  refine Ei.add dL_law_1423 ?_
  refine Ev.rdS (by omega) (by omega) hs dL_law_1424 ?_
  refine Em.cv1 (As := [_]) L1.2.1.1 k_X11_pass (tb8 (i := 31) rfl) ki_X11_pass kv_X11_pass dL_law_1425 rfl rfl (by decide) (by decide) (s_X11_pass L1.2.1.1 hI2 (sx_r X i 1) hV.2.2.1 hV.2.2.2 (by omega) hE) ?_
  refine Ev.istore dL_law_1428 (by decide) ?_
  refine Ev.aload_n (i := 2) dL_law_1430 rfl rfl ?_
  refine Em.cv1 (As := []) L1.2.1.1 k_X11_thrown (tb7 (i := 114) rfl) ki_X11_thrown kv_X11_thrown dL_law_1431 rfl rfl (by decide) (by decide) (s_X11_thrown L1.2.1.1 I3) ?_
  refine Ev.iload dL_law_1434 rfl ?_
  refine Ei.icmp_eq_t (tgt := 1441) dL_law_1436 (by decide) (show R32 ((f_pass (sx X i 1) v).2 0 0) from ⟨by omega, by omega⟩) (show R32 ((f_pass (sx X i 1) v).2 0 0) from ⟨by omega, by omega⟩) rfl ?_
  refine Ev.iload dL_law_1441 rfl ?_
  by_cases z : (f_pass (sx X i 1) v).2 0 0 = 0
  · refine Ei.if_ne_f (tgt := 1458) dL_law_1443 (by decide) (show R32 ((f_pass (sx X i 1) v).2 0 0) from ⟨by omega, by omega⟩) (fun q => q z) ?_
    refine Ev.aload_n (i := 3) dL_law_1446 rfl rfl ?_
    refine Ei.const dL_law_1447 ?_
    refine Ev.lald L1.2.2.1.1 (vin0 L1.2.2.1.2) dL_law_1448 ?_
    rw [clamp0, show (Hm τ m0 (f_pass (sx X i 1) v).2).lv oL 0 = (i32 (f_pass (sx X i 1) v).1).toInt64 from hz z]
    refine Ev.iload dL_law_1449 rfl ?_
    refine Ev.i2l dL_law_1451 rfl ?_
    refine Ev.lcmp dL_law_1452 ?_
    rw [lcmp_s]
    refine Ei.if_eq_t (tgt := 1458) dL_law_1453 (by decide) ⟨by decide, by decide⟩ rfl ?_
    refine Ev.goto (tgt := 2228) dL_law_1458 (by decide) ?_
    exact Ev.fgt (ls' := lsL X (A 13 0) m0 oL oD i) ⟨rfl, ⟨rfl, ⟨rfl, ⟨rfl, ⟨rfl, ⟨rfl, trivial⟩⟩⟩⟩⟩⟩ fin
  · refine Ei.if_ne_t (tgt := 1458) dL_law_1443 (by decide) (show R32 ((f_pass (sx X i 1) v).2 0 0) from ⟨by omega, by omega⟩) z ?_
    refine Ev.goto (tgt := 2228) dL_law_1458 (by decide) ?_
    exact Ev.fgt (ls' := lsL X (A 13 0) m0 oL oD i) ⟨rfl, ⟨rfl, ⟨rfl, ⟨rfl, ⟨rfl, ⟨rfl, trivial⟩⟩⟩⟩⟩⟩ fin
theorem c_day {X : Cx} {σ : Hp} {A : Nat → Int → Nat} {c : Cs} {B : Int → Nat} {m0 oL oD : Nat} {v : Vw} {T E i : Int} (hL : LW X σ A c B m0 oL oD v) (hV : INV c v) (hI : IM v T E) (hT : T + 31 ≤ 20000) (hE : E + 102300 ≤ 1000000000) :
    ∃ τ A' B', (LW X τ A' c B' m0 oL oD (f_day v).2 ∧ INV c (f_day v).2 ∧ IM (f_day v).2 (T + 31) (E + 102300) ∧ A' 13 0 = A 13 0) ∧ ∀ (o : Rs) (τf : Hp), Ev X m_L_law 30 2228 (lsL X (A 13 0) m0 oL oD i) [] τ o τf → Ev X m_L_law 30 1461 (lsL X (A 13 0) m0 oL oD i) [] σ o τf := by
  have hT0 := hI.1
  obtain ⟨hA, hV2⟩ := fc_day hV
  obtain ⟨τ, A2, B2, hC, hS, hE2, hw⟩ := s_X10_day (X := X) (ρ := σ) (c := c) A σ B hL.1 (ws1 hL.1.2)
  obtain ⟨L1, l2, l3⟩ := hL.call hS
  have e13 := (hE2 13 0 (rg13 hL.1.2)).1
  have kd13 : σ.kd (A 13 0) = 14 := hL.1.1.kd (rg13 hL.1.2)
  have I3 : IM (f_day v).2 (T + 31) (E + 102300) := (i_day hI).mono (by omega) (by omega) (by omega) (by omega)
  rw [hA] at hC
  refine ⟨Hm τ m0 (f_day v).2, A2, B2, ⟨L1.mod _, hV2, I3, e13⟩, fun o τf fin => ?_⟩
  refine Ev.aload_n (i := 1) dL_law_1461 rfl rfl ?_
  refine Ev.callV (ci := 13) (C := RX10) (T := TX10) (N := 12) (As := []) (v := some (.int (i32 (f_day v).1))) k_X10_day rfl kd13 (tb1 (i := 236) rfl) ki_X10_day kv_X10_day dL_law_1462 rfl rfl (by decide) (by decide) hC ?_
  refine Ev.hp L1.2.1.2 ?_
  refine Ev.aload_n (i := 2) dL_law_1465 rfl rfl ?_
  refine Em.cv1 (As := []) L1.2.1.1 k_X11_day (tb8 (i := 79) rfl) ki_X11_day kv_X11_day dL_law_1466 rfl rfl (Nat.le_of_ble_eq_true rfl) (by decide) (s_X11_day L1.2.1.1 hI) ?_
  have u : 0 ≤ (f_day v).1 ∧ (f_day v).1 ≤ T := hI.2 8 0
  refine Ei.icmp_eq_t (tgt := 2228) dL_law_1469 (by decide) (show R32 (f_day v).1 from ⟨by omega, by omega⟩) (show R32 (f_day v).1 from ⟨by omega, by omega⟩) rfl ?_
  exact fin
theorem c_state {X : Cx} {σ : Hp} {A : Nat → Int → Nat} {c : Cs} {B : Int → Nat} {m0 oL oD : Nat} {v : Vw} {T E i : Int} (hN : KN X) (hL : LW X σ A c B m0 oL oD v) (hV : INV c v) (hI : IM v T E) (hT : T + 31 ≤ 20000) (hE : E + 102300 ≤ 1000000000) (hi : 0 ≤ i) (hi3 : i + 3 < X.sL) (hs : X.sL ≤ 2048) :
    ∃ τ A' B', (LW X τ A' (g_X10_state (sx X i 1) c).2 B' m0 oL oD (f_state (sx X i 1) v).2 ∧ INV (g_X10_state (sx X i 1) c).2 (f_state (sx X i 1) v).2 ∧ IM (f_state (sx X i 1) v).2 (T + 31) (E + 102300) ∧ A' 13 0 = A 13 0) ∧ ∀ (o : Rs) (τf : Hp), Ev X m_L_law 30 2228 (lsL X (A 13 0) m0 oL oD i) [] τ o τf → Ev X m_L_law 30 1474 (lsL X (A 13 0) m0 oL oD i) [] σ o τf := by
  have hT0 := hI.1
  have hI2 : IM v (T + 31) E := hI.mono (by omega) (Int.le_refl _) (by omega) (by omega)
  obtain ⟨τ, A2, B2, hC, L1, hV2, e13, hz⟩ := w_state hN hL hV hI2 (sx_r X i 1)
  have I3 : IM (f_state (sx X i 1) v).2 (T + 31) (E + 102300) := (i_state hI2 (sx_r X i 1)).mono (Int.le_refl _) (by omega) (by omega) (by omega)
  have t0 : 0 ≤ (f_state (sx X i 1) v).2 0 0 ∧ (f_state (sx X i 1) v).2 0 0 ≤ 4 := I3.2 0 0
  refine ⟨Hm τ m0 (f_state (sx X i 1) v).2, A2, B2, ⟨L1.mod _, hV2, I3, e13⟩, fun o τf fin => ?_⟩
  refine Ev.aload_n (i := 1) dL_law_1474 rfl rfl ?_
  refine Ev.aload_n (i := 0) dL_law_1475 rfl rfl ?_
  refine Ev.iload dL_law_1476 rfl ?_
  refine Ei.const dL_law_1478 ?_
  refine Ei.add dL_law_1479 ?_
  refine Ev.rdS (by omega) (by omega) hs dL_law_1480 ?_
  refine Ev.aload_n (i := 3) dL_law_1481 rfl rfl ?_
  refine Ev.callSH (As := [_, _, _]) (v := some (.int (i32 ((f_state (sx X i 1) v).2 0 0)))) k_L_state (tb6 (i := 99) rfl) ki_L_state dL_law_1482 rfl rfl (by decide) (by decide) hC ?_
  refine Ev.istore dL_law_1485 (by decide) ?_
  refine Ev.hp L1.2.1.2 ?_
  refine Ev.aload_n (i := 2) dL_law_1487 rfl rfl ?_
  refine Ev.aload_n (i := 0) dL_law_1488 rfl rfl ?_
  refine Ev.iload dL_law_1489 rfl ?_
  refine Ei.const dL_law_1491 ?_
  refine Ei.add dL_law_1492 ?_
  refine Ev.rdS (by omega) (by omega) hs dL_law_1493 ?_
  refine Em.cv1 (As := [_]) L1.2.1.1 k_X11_state (tb8 (i := 83) rfl) ki_X11_state kv_X11_state dL_law_1494 rfl rfl (by decide) (by decide) (s_X11_state L1.2.1.1 hI2 (sx_r X i 1)) ?_
  refine Ev.istore dL_law_1497 (by decide) ?_
  refine Ev.aload_n (i := 2) dL_law_1499 rfl rfl ?_
  refine Em.cv1 (As := []) L1.2.1.1 k_X11_thrown (tb7 (i := 114) rfl) ki_X11_thrown kv_X11_thrown dL_law_1500 rfl rfl (by decide) (by decide) (s_X11_thrown L1.2.1.1 I3) ?_
  refine Ev.iload dL_law_1503 rfl ?_
  refine Ei.icmp_eq_t (tgt := 1510) dL_law_1505 (by decide) (show R32 ((f_state (sx X i 1) v).2 0 0) from ⟨by omega, by omega⟩) (show R32 ((f_state (sx X i 1) v).2 0 0) from ⟨by omega, by omega⟩) rfl ?_
  refine Ev.iload dL_law_1510 rfl ?_
  by_cases z : (f_state (sx X i 1) v).2 0 0 = 0
  · refine Ei.if_ne_f (tgt := 1527) dL_law_1512 (by decide) (show R32 ((f_state (sx X i 1) v).2 0 0) from ⟨by omega, by omega⟩) (fun q => q z) ?_
    refine Ev.aload_n (i := 3) dL_law_1515 rfl rfl ?_
    refine Ei.const dL_law_1516 ?_
    refine Ev.lald L1.2.2.1.1 (vin0 L1.2.2.1.2) dL_law_1517 ?_
    rw [clamp0, show (Hm τ m0 (f_state (sx X i 1) v).2).lv oL 0 = (i32 (f_state (sx X i 1) v).1).toInt64 from hz z]
    refine Ev.iload dL_law_1518 rfl ?_
    refine Ev.i2l dL_law_1520 rfl ?_
    refine Ev.lcmp dL_law_1521 ?_
    rw [lcmp_s]
    refine Ei.if_eq_t (tgt := 1527) dL_law_1522 (by decide) ⟨by decide, by decide⟩ rfl ?_
    refine Ev.goto (tgt := 2228) dL_law_1527 (by decide) ?_
    exact Ev.fgt (ls' := lsL X (A 13 0) m0 oL oD i) ⟨rfl, ⟨rfl, ⟨rfl, ⟨rfl, ⟨rfl, ⟨rfl, trivial⟩⟩⟩⟩⟩⟩ fin
  · refine Ei.if_ne_t (tgt := 1527) dL_law_1512 (by decide) (show R32 ((f_state (sx X i 1) v).2 0 0) from ⟨by omega, by omega⟩) z ?_
    refine Ev.goto (tgt := 2228) dL_law_1527 (by decide) ?_
    exact Ev.fgt (ls' := lsL X (A 13 0) m0 oL oD i) ⟨rfl, ⟨rfl, ⟨rfl, ⟨rfl, ⟨rfl, ⟨rfl, trivial⟩⟩⟩⟩⟩⟩ fin
theorem c_brewIn {X : Cx} {σ : Hp} {A : Nat → Int → Nat} {c : Cs} {B : Int → Nat} {m0 oL oD : Nat} {v : Vw} {T E i : Int} (hN : KN X) (hL : LW X σ A c B m0 oL oD v) (hV : INV c v) (hI : IM v T E) (hT : T + 31 ≤ 20000) (hE : E + 102300 ≤ 1000000000) (hi : 0 ≤ i) (hi3 : i + 3 < X.sL) (hs : X.sL ≤ 2048) :
    ∃ τ A' B', (LW X τ A' (g_X10_brewIn (sx X i 1) c).2 B' m0 oL oD (f_brewIn (sx X i 1) v).2 ∧ INV (g_X10_brewIn (sx X i 1) c).2 (f_brewIn (sx X i 1) v).2 ∧ IM (f_brewIn (sx X i 1) v).2 (T + 31) (E + 102300) ∧ A' 13 0 = A 13 0) ∧ ∀ (o : Rs) (τf : Hp), Ev X m_L_law 30 2228 (lsL X (A 13 0) m0 oL oD i) [] τ o τf → Ev X m_L_law 30 1530 (lsL X (A 13 0) m0 oL oD i) [] σ o τf := by
  have hT0 := hI.1
  have hI2 : IM v (T + 31) E := hI.mono (by omega) (Int.le_refl _) (by omega) (by omega)
  obtain ⟨τ, A2, B2, hC, L1, hV2, e13, hz⟩ := w_brewIn hN hL hV hI2 (sx_r X i 1)
  have I3 : IM (f_brewIn (sx X i 1) v).2 (T + 31) (E + 102300) := (i_brewIn hI2 (sx_r X i 1)).mono (Int.le_refl _) (by omega) (by omega) (by omega)
  have t0 : 0 ≤ (f_brewIn (sx X i 1) v).2 0 0 ∧ (f_brewIn (sx X i 1) v).2 0 0 ≤ 4 := I3.2 0 0
  refine ⟨Hm τ m0 (f_brewIn (sx X i 1) v).2, A2, B2, ⟨L1.mod _, hV2, I3, e13⟩, fun o τf fin => ?_⟩
  refine Ev.aload_n (i := 1) dL_law_1530 rfl rfl ?_
  refine Ev.aload_n (i := 0) dL_law_1531 rfl rfl ?_
  refine Ev.iload dL_law_1532 rfl ?_
  refine Ei.const dL_law_1534 ?_
  refine Ei.add dL_law_1535 ?_
  refine Ev.rdS (by omega) (by omega) hs dL_law_1536 ?_
  refine Ev.aload_n (i := 3) dL_law_1537 rfl rfl ?_
  refine Ev.callSH (As := [_, _, _]) (v := some (.int (i32 ((f_brewIn (sx X i 1) v).2 0 0)))) k_L_brewIn (tb6 (i := 106) rfl) ki_L_brewIn dL_law_1538 rfl rfl (by decide) (by decide) hC ?_
  refine Ev.istore dL_law_1541 (by decide) ?_
  refine Ev.hp L1.2.1.2 ?_
  refine Ev.aload_n (i := 2) dL_law_1543 rfl rfl ?_
  refine Ev.aload_n (i := 0) dL_law_1544 rfl rfl ?_
  refine Ev.iload dL_law_1545 rfl ?_
  refine Ei.const dL_law_1547 ?_
  refine Ei.add dL_law_1548 ?_
  refine Ev.rdS (by omega) (by omega) hs dL_law_1549 ?_
  refine Em.cv1 (As := [_]) L1.2.1.1 k_X11_brewIn (tb8 (i := 91) rfl) ki_X11_brewIn kv_X11_brewIn dL_law_1550 rfl rfl (by decide) (by decide) (s_X11_brewIn L1.2.1.1 hI2 (sx_r X i 1)) ?_
  refine Ev.istore dL_law_1553 (by decide) ?_
  refine Ev.aload_n (i := 2) dL_law_1555 rfl rfl ?_
  refine Em.cv1 (As := []) L1.2.1.1 k_X11_thrown (tb7 (i := 114) rfl) ki_X11_thrown kv_X11_thrown dL_law_1556 rfl rfl (by decide) (by decide) (s_X11_thrown L1.2.1.1 I3) ?_
  refine Ev.iload dL_law_1559 rfl ?_
  refine Ei.icmp_eq_t (tgt := 1566) dL_law_1561 (by decide) (show R32 ((f_brewIn (sx X i 1) v).2 0 0) from ⟨by omega, by omega⟩) (show R32 ((f_brewIn (sx X i 1) v).2 0 0) from ⟨by omega, by omega⟩) rfl ?_
  refine Ev.iload dL_law_1566 rfl ?_
  by_cases z : (f_brewIn (sx X i 1) v).2 0 0 = 0
  · refine Ei.if_ne_f (tgt := 1583) dL_law_1568 (by decide) (show R32 ((f_brewIn (sx X i 1) v).2 0 0) from ⟨by omega, by omega⟩) (fun q => q z) ?_
    refine Ev.aload_n (i := 3) dL_law_1571 rfl rfl ?_
    refine Ei.const dL_law_1572 ?_
    refine Ev.lald L1.2.2.1.1 (vin0 L1.2.2.1.2) dL_law_1573 ?_
    rw [clamp0, show (Hm τ m0 (f_brewIn (sx X i 1) v).2).lv oL 0 = (i32 (f_brewIn (sx X i 1) v).1).toInt64 from hz z]
    refine Ev.iload dL_law_1574 rfl ?_
    refine Ev.i2l dL_law_1576 rfl ?_
    refine Ev.lcmp dL_law_1577 ?_
    rw [lcmp_s]
    refine Ei.if_eq_t (tgt := 1583) dL_law_1578 (by decide) ⟨by decide, by decide⟩ rfl ?_
    refine Ev.goto (tgt := 2228) dL_law_1583 (by decide) ?_
    exact Ev.fgt (ls' := lsL X (A 13 0) m0 oL oD i) ⟨rfl, ⟨rfl, ⟨rfl, ⟨rfl, ⟨rfl, ⟨rfl, trivial⟩⟩⟩⟩⟩⟩ fin
  · refine Ei.if_ne_t (tgt := 1583) dL_law_1568 (by decide) (show R32 ((f_brewIn (sx X i 1) v).2 0 0) from ⟨by omega, by omega⟩) z ?_
    refine Ev.goto (tgt := 2228) dL_law_1583 (by decide) ?_
    exact Ev.fgt (ls' := lsL X (A 13 0) m0 oL oD i) ⟨rfl, ⟨rfl, ⟨rfl, ⟨rfl, ⟨rfl, ⟨rfl, trivial⟩⟩⟩⟩⟩⟩ fin
theorem c_cleanDay {X : Cx} {σ : Hp} {A : Nat → Int → Nat} {c : Cs} {B : Int → Nat} {m0 oL oD : Nat} {v : Vw} {T E i : Int} (hN : KN X) (hL : LW X σ A c B m0 oL oD v) (hV : INV c v) (hI : IM v T E) (hT : T + 31 ≤ 20000) (hE : E + 102300 ≤ 1000000000) (hi : 0 ≤ i) (hi3 : i + 3 < X.sL) (hs : X.sL ≤ 2048) :
    ∃ τ A' B', (LW X τ A' (g_X10_cleanDay (sx X i 1) c).2 B' m0 oL oD (f_cleanDay (sx X i 1) v).2 ∧ INV (g_X10_cleanDay (sx X i 1) c).2 (f_cleanDay (sx X i 1) v).2 ∧ IM (f_cleanDay (sx X i 1) v).2 (T + 31) (E + 102300) ∧ A' 13 0 = A 13 0) ∧ ∀ (o : Rs) (τf : Hp), Ev X m_L_law 30 2228 (lsL X (A 13 0) m0 oL oD i) [] τ o τf → Ev X m_L_law 30 1586 (lsL X (A 13 0) m0 oL oD i) [] σ o τf := by
  have hT0 := hI.1
  have hI2 : IM v (T + 31) E := hI.mono (by omega) (Int.le_refl _) (by omega) (by omega)
  obtain ⟨τ, A2, B2, hC, L1, hV2, e13, hz⟩ := w_cleanDay hN hL hV hI2 (sx_r X i 1)
  have I3 : IM (f_cleanDay (sx X i 1) v).2 (T + 31) (E + 102300) := (i_cleanDay hI2 (sx_r X i 1)).mono (Int.le_refl _) (by omega) (by omega) (by omega)
  have t0 : 0 ≤ (f_cleanDay (sx X i 1) v).2 0 0 ∧ (f_cleanDay (sx X i 1) v).2 0 0 ≤ 4 := I3.2 0 0
  refine ⟨Hm τ m0 (f_cleanDay (sx X i 1) v).2, A2, B2, ⟨L1.mod _, hV2, I3, e13⟩, fun o τf fin => ?_⟩
  refine Ev.aload_n (i := 1) dL_law_1586 rfl rfl ?_
  refine Ev.aload_n (i := 0) dL_law_1587 rfl rfl ?_
  refine Ev.iload dL_law_1588 rfl ?_
  refine Ei.const dL_law_1590 ?_
  refine Ei.add dL_law_1591 ?_
  refine Ev.rdS (by omega) (by omega) hs dL_law_1592 ?_
  refine Ev.aload_n (i := 3) dL_law_1593 rfl rfl ?_
  refine Ev.callSH (As := [_, _, _]) (v := some (.int (i32 ((f_cleanDay (sx X i 1) v).2 0 0)))) k_L_cleanDay (tb6 (i := 114) rfl) ki_L_cleanDay dL_law_1594 rfl rfl (by decide) (by decide) hC ?_
  refine Ev.istore dL_law_1597 (by decide) ?_
  refine Ev.hp L1.2.1.2 ?_
  refine Ev.aload_n (i := 2) dL_law_1599 rfl rfl ?_
  refine Ev.aload_n (i := 0) dL_law_1600 rfl rfl ?_
  refine Ev.iload dL_law_1601 rfl ?_
  refine Ei.const dL_law_1603 ?_
  refine Ei.add dL_law_1604 ?_
  refine Ev.rdS (by omega) (by omega) hs dL_law_1605 ?_
  refine Em.cv1 (As := [_]) L1.2.1.1 k_X11_cleanDay (tb8 (i := 95) rfl) ki_X11_cleanDay kv_X11_cleanDay dL_law_1606 rfl rfl (by decide) (by decide) (s_X11_cleanDay L1.2.1.1 hI2 (sx_r X i 1)) ?_
  refine Ev.istore dL_law_1609 (by decide) ?_
  refine Ev.aload_n (i := 2) dL_law_1611 rfl rfl ?_
  refine Em.cv1 (As := []) L1.2.1.1 k_X11_thrown (tb7 (i := 114) rfl) ki_X11_thrown kv_X11_thrown dL_law_1612 rfl rfl (by decide) (by decide) (s_X11_thrown L1.2.1.1 I3) ?_
  refine Ev.iload dL_law_1615 rfl ?_
  refine Ei.icmp_eq_t (tgt := 1622) dL_law_1617 (by decide) (show R32 ((f_cleanDay (sx X i 1) v).2 0 0) from ⟨by omega, by omega⟩) (show R32 ((f_cleanDay (sx X i 1) v).2 0 0) from ⟨by omega, by omega⟩) rfl ?_
  refine Ev.iload dL_law_1622 rfl ?_
  by_cases z : (f_cleanDay (sx X i 1) v).2 0 0 = 0
  · refine Ei.if_ne_f (tgt := 1639) dL_law_1624 (by decide) (show R32 ((f_cleanDay (sx X i 1) v).2 0 0) from ⟨by omega, by omega⟩) (fun q => q z) ?_
    refine Ev.aload_n (i := 3) dL_law_1627 rfl rfl ?_
    refine Ei.const dL_law_1628 ?_
    refine Ev.lald L1.2.2.1.1 (vin0 L1.2.2.1.2) dL_law_1629 ?_
    rw [clamp0, show (Hm τ m0 (f_cleanDay (sx X i 1) v).2).lv oL 0 = (i32 (f_cleanDay (sx X i 1) v).1).toInt64 from hz z]
    refine Ev.iload dL_law_1630 rfl ?_
    refine Ev.i2l dL_law_1632 rfl ?_
    refine Ev.lcmp dL_law_1633 ?_
    rw [lcmp_s]
    refine Ei.if_eq_t (tgt := 1639) dL_law_1634 (by decide) ⟨by decide, by decide⟩ rfl ?_
    refine Ev.goto (tgt := 2228) dL_law_1639 (by decide) ?_
    exact Ev.fgt (ls' := lsL X (A 13 0) m0 oL oD i) ⟨rfl, ⟨rfl, ⟨rfl, ⟨rfl, ⟨rfl, ⟨rfl, trivial⟩⟩⟩⟩⟩⟩ fin
  · refine Ei.if_ne_t (tgt := 1639) dL_law_1624 (by decide) (show R32 ((f_cleanDay (sx X i 1) v).2 0 0) from ⟨by omega, by omega⟩) z ?_
    refine Ev.goto (tgt := 2228) dL_law_1639 (by decide) ?_
    exact Ev.fgt (ls' := lsL X (A 13 0) m0 oL oD i) ⟨rfl, ⟨rfl, ⟨rfl, ⟨rfl, ⟨rfl, ⟨rfl, trivial⟩⟩⟩⟩⟩⟩ fin
theorem c_brews {X : Cx} {σ : Hp} {A : Nat → Int → Nat} {c : Cs} {B : Int → Nat} {m0 oL oD : Nat} {v : Vw} {T E i : Int} (hL : LW X σ A c B m0 oL oD v) (hV : INV c v) (hI : IM v T E) (hT : T + 31 ≤ 20000) (hE : E + 102300 ≤ 1000000000) :
    ∃ τ A' B', (LW X τ A' c B' m0 oL oD (f_brews v).2 ∧ INV c (f_brews v).2 ∧ IM (f_brews v).2 (T + 31) (E + 102300) ∧ A' 13 0 = A 13 0) ∧ ∀ (o : Rs) (τf : Hp), Ev X m_L_law 30 2228 (lsL X (A 13 0) m0 oL oD i) [] τ o τf → Ev X m_L_law 30 1642 (lsL X (A 13 0) m0 oL oD i) [] σ o τf := by
  have hT0 := hI.1
  obtain ⟨hA, hV2⟩ := fc_brews hV hI
  obtain ⟨τ, A2, B2, hC, hS, hE2, hw⟩ := s_X10_brews (X := X) (ρ := σ) (c := c) A σ B hL.1 (ws1 hL.1.2)
  obtain ⟨L1, l2, l3⟩ := hL.call hS
  have e13 := (hE2 13 0 (rg13 hL.1.2)).1
  have kd13 : σ.kd (A 13 0) = 14 := hL.1.1.kd (rg13 hL.1.2)
  have I3 : IM (f_brews v).2 (T + 31) (E + 102300) := (i_brews hI).mono (by omega) (by omega) (by omega) (by omega)
  rw [hA] at hC
  refine ⟨Hm τ m0 (f_brews v).2, A2, B2, ⟨L1.mod _, hV2, I3, e13⟩, fun o τf fin => ?_⟩
  refine Ev.aload_n (i := 1) dL_law_1642 rfl rfl ?_
  refine Ev.callV (ci := 13) (C := RX10) (T := TX10) (N := 12) (As := []) (v := some (.int (i32 (f_brews v).1))) k_X10_brews rfl kd13 (tb2 (i := 0) rfl) ki_X10_brews kv_X10_brews dL_law_1643 rfl rfl (by decide) (by decide) hC ?_
  refine Ev.hp L1.2.1.2 ?_
  refine Ev.aload_n (i := 2) dL_law_1646 rfl rfl ?_
  refine Em.cv1 (As := []) L1.2.1.1 k_X11_brews (tb8 (i := 99) rfl) ki_X11_brews kv_X11_brews dL_law_1647 rfl rfl (Nat.le_of_ble_eq_true rfl) (by decide) (s_X11_brews L1.2.1.1 hI) ?_
  have u : 0 ≤ (f_brews v).1 ∧ (f_brews v).1 ≤ 30 := hI.2 5 0
  refine Ei.icmp_eq_t (tgt := 2228) dL_law_1650 (by decide) (show R32 (f_brews v).1 from ⟨by omega, by omega⟩) (show R32 (f_brews v).1 from ⟨by omega, by omega⟩) rfl ?_
  exact fin
theorem c_recipeOf {X : Cx} {σ : Hp} {A : Nat → Int → Nat} {c : Cs} {B : Int → Nat} {m0 oL oD : Nat} {v : Vw} {T E i : Int} (hN : KN X) (hL : LW X σ A c B m0 oL oD v) (hV : INV c v) (hI : IM v T E) (hT : T + 31 ≤ 20000) (hE : E + 102300 ≤ 1000000000) (hi : 0 ≤ i) (hi3 : i + 3 < X.sL) (hs : X.sL ≤ 2048) :
    ∃ τ A' B', (LW X τ A' (g_X10_recipeOf (sx X i 1) c).2 B' m0 oL oD (f_recipeOf (sx X i 1) v).2 ∧ INV (g_X10_recipeOf (sx X i 1) c).2 (f_recipeOf (sx X i 1) v).2 ∧ IM (f_recipeOf (sx X i 1) v).2 (T + 31) (E + 102300) ∧ A' 13 0 = A 13 0) ∧ ∀ (o : Rs) (τf : Hp), Ev X m_L_law 30 2228 (lsL X (A 13 0) m0 oL oD i) [] τ o τf → Ev X m_L_law 30 1655 (lsL X (A 13 0) m0 oL oD i) [] σ o τf := by
  have hT0 := hI.1
  have hI2 : IM v (T + 31) E := hI.mono (by omega) (Int.le_refl _) (by omega) (by omega)
  obtain ⟨τ, A2, B2, hC, L1, hV2, e13, hz⟩ := w_recipeOf hN hL hV hI2 (sx_r X i 1)
  have I3 : IM (f_recipeOf (sx X i 1) v).2 (T + 31) (E + 102300) := (i_recipeOf hI2 (sx_r X i 1)).mono (Int.le_refl _) (by omega) (by omega) (by omega)
  have t0 : 0 ≤ (f_recipeOf (sx X i 1) v).2 0 0 ∧ (f_recipeOf (sx X i 1) v).2 0 0 ≤ 4 := I3.2 0 0
  refine ⟨Hm τ m0 (f_recipeOf (sx X i 1) v).2, A2, B2, ⟨L1.mod _, hV2, I3, e13⟩, fun o τf fin => ?_⟩
  refine Ev.aload_n (i := 1) dL_law_1655 rfl rfl ?_
  refine Ev.aload_n (i := 0) dL_law_1656 rfl rfl ?_
  refine Ev.iload dL_law_1657 rfl ?_
  refine Ei.const dL_law_1659 ?_
  refine Ei.add dL_law_1660 ?_
  refine Ev.rdS (by omega) (by omega) hs dL_law_1661 ?_
  refine Ev.aload_n (i := 3) dL_law_1662 rfl rfl ?_
  refine Ev.callSH (As := [_, _, _]) (v := some (.int (i32 ((f_recipeOf (sx X i 1) v).2 0 0)))) k_L_recipeOf (tb6 (i := 122) rfl) ki_L_recipeOf dL_law_1663 rfl rfl (by decide) (by decide) hC ?_
  refine Ev.istore dL_law_1666 (by decide) ?_
  refine Ev.hp L1.2.1.2 ?_
  refine Ev.aload_n (i := 2) dL_law_1668 rfl rfl ?_
  refine Ev.aload_n (i := 0) dL_law_1669 rfl rfl ?_
  refine Ev.iload dL_law_1670 rfl ?_
  refine Ei.const dL_law_1672 ?_
  refine Ei.add dL_law_1673 ?_
  refine Ev.rdS (by omega) (by omega) hs dL_law_1674 ?_
  refine Em.cv1 (As := [_]) L1.2.1.1 k_X11_recipeOf (tb8 (i := 103) rfl) ki_X11_recipeOf kv_X11_recipeOf dL_law_1675 rfl rfl (by decide) (by decide) (s_X11_recipeOf L1.2.1.1 hI2 (sx_r X i 1)) ?_
  refine Ev.istore dL_law_1678 (by decide) ?_
  refine Ev.aload_n (i := 2) dL_law_1680 rfl rfl ?_
  refine Em.cv1 (As := []) L1.2.1.1 k_X11_thrown (tb7 (i := 114) rfl) ki_X11_thrown kv_X11_thrown dL_law_1681 rfl rfl (by decide) (by decide) (s_X11_thrown L1.2.1.1 I3) ?_
  refine Ev.iload dL_law_1684 rfl ?_
  refine Ei.icmp_eq_t (tgt := 1691) dL_law_1686 (by decide) (show R32 ((f_recipeOf (sx X i 1) v).2 0 0) from ⟨by omega, by omega⟩) (show R32 ((f_recipeOf (sx X i 1) v).2 0 0) from ⟨by omega, by omega⟩) rfl ?_
  refine Ev.iload dL_law_1691 rfl ?_
  by_cases z : (f_recipeOf (sx X i 1) v).2 0 0 = 0
  · refine Ei.if_ne_f (tgt := 1708) dL_law_1693 (by decide) (show R32 ((f_recipeOf (sx X i 1) v).2 0 0) from ⟨by omega, by omega⟩) (fun q => q z) ?_
    refine Ev.aload_n (i := 3) dL_law_1696 rfl rfl ?_
    refine Ei.const dL_law_1697 ?_
    refine Ev.lald L1.2.2.1.1 (vin0 L1.2.2.1.2) dL_law_1698 ?_
    rw [clamp0, show (Hm τ m0 (f_recipeOf (sx X i 1) v).2).lv oL 0 = (i32 (f_recipeOf (sx X i 1) v).1).toInt64 from hz z]
    refine Ev.iload dL_law_1699 rfl ?_
    refine Ev.i2l dL_law_1701 rfl ?_
    refine Ev.lcmp dL_law_1702 ?_
    rw [lcmp_s]
    refine Ei.if_eq_t (tgt := 1708) dL_law_1703 (by decide) ⟨by decide, by decide⟩ rfl ?_
    refine Ev.goto (tgt := 2228) dL_law_1708 (by decide) ?_
    exact Ev.fgt (ls' := lsL X (A 13 0) m0 oL oD i) ⟨rfl, ⟨rfl, ⟨rfl, ⟨rfl, ⟨rfl, ⟨rfl, trivial⟩⟩⟩⟩⟩⟩ fin
  · refine Ei.if_ne_t (tgt := 1708) dL_law_1693 (by decide) (show R32 ((f_recipeOf (sx X i 1) v).2 0 0) from ⟨by omega, by omega⟩) z ?_
    refine Ev.goto (tgt := 2228) dL_law_1708 (by decide) ?_
    exact Ev.fgt (ls' := lsL X (A 13 0) m0 oL oD i) ⟨rfl, ⟨rfl, ⟨rfl, ⟨rfl, ⟨rfl, ⟨rfl, trivial⟩⟩⟩⟩⟩⟩ fin
theorem c_generation {X : Cx} {σ : Hp} {A : Nat → Int → Nat} {c : Cs} {B : Int → Nat} {m0 oL oD : Nat} {v : Vw} {T E i : Int} (hN : KN X) (hL : LW X σ A c B m0 oL oD v) (hV : INV c v) (hI : IM v T E) (hT : T + 31 ≤ 20000) (hE : E + 102300 ≤ 1000000000) (hi : 0 ≤ i) (hi3 : i + 3 < X.sL) (hs : X.sL ≤ 2048) :
    ∃ τ A' B', (LW X τ A' (g_X10_generation (sx X i 1) c).2 B' m0 oL oD (f_generation (sx X i 1) v).2 ∧ INV (g_X10_generation (sx X i 1) c).2 (f_generation (sx X i 1) v).2 ∧ IM (f_generation (sx X i 1) v).2 (T + 31) (E + 102300) ∧ A' 13 0 = A 13 0) ∧ ∀ (o : Rs) (τf : Hp), Ev X m_L_law 30 2228 (lsL X (A 13 0) m0 oL oD i) [] τ o τf → Ev X m_L_law 30 1711 (lsL X (A 13 0) m0 oL oD i) [] σ o τf := by
  have hT0 := hI.1
  have hI2 : IM v (T + 31) E := hI.mono (by omega) (Int.le_refl _) (by omega) (by omega)
  obtain ⟨τ, A2, B2, hC, L1, hV2, e13, hz⟩ := w_generation hN hL hV hI2 (sx_r X i 1)
  have I3 : IM (f_generation (sx X i 1) v).2 (T + 31) (E + 102300) := (i_generation hI2 (sx_r X i 1)).mono (Int.le_refl _) (by omega) (by omega) (by omega)
  have t0 : 0 ≤ (f_generation (sx X i 1) v).2 0 0 ∧ (f_generation (sx X i 1) v).2 0 0 ≤ 4 := I3.2 0 0
  refine ⟨Hm τ m0 (f_generation (sx X i 1) v).2, A2, B2, ⟨L1.mod _, hV2, I3, e13⟩, fun o τf fin => ?_⟩
  refine Ev.aload_n (i := 1) dL_law_1711 rfl rfl ?_
  refine Ev.aload_n (i := 0) dL_law_1712 rfl rfl ?_
  refine Ev.iload dL_law_1713 rfl ?_
  refine Ei.const dL_law_1715 ?_
  refine Ei.add dL_law_1716 ?_
  refine Ev.rdS (by omega) (by omega) hs dL_law_1717 ?_
  refine Ev.aload_n (i := 3) dL_law_1718 rfl rfl ?_
  refine Ev.callSH (As := [_, _, _]) (v := some (.int (i32 ((f_generation (sx X i 1) v).2 0 0)))) k_L_generation (tb6 (i := 134) rfl) ki_L_generation dL_law_1719 rfl rfl (by decide) (by decide) hC ?_
  refine Ev.istore dL_law_1722 (by decide) ?_
  refine Ev.hp L1.2.1.2 ?_
  refine Ev.aload_n (i := 2) dL_law_1724 rfl rfl ?_
  refine Ev.aload_n (i := 0) dL_law_1725 rfl rfl ?_
  refine Ev.iload dL_law_1726 rfl ?_
  refine Ei.const dL_law_1728 ?_
  refine Ei.add dL_law_1729 ?_
  refine Ev.rdS (by omega) (by omega) hs dL_law_1730 ?_
  refine Em.cv1 (As := [_]) L1.2.1.1 k_X11_generation (tb8 (i := 111) rfl) ki_X11_generation kv_X11_generation dL_law_1731 rfl rfl (by decide) (by decide) (s_X11_generation L1.2.1.1 hI2 (sx_r X i 1)) ?_
  refine Ev.istore dL_law_1734 (by decide) ?_
  refine Ev.aload_n (i := 2) dL_law_1736 rfl rfl ?_
  refine Em.cv1 (As := []) L1.2.1.1 k_X11_thrown (tb7 (i := 114) rfl) ki_X11_thrown kv_X11_thrown dL_law_1737 rfl rfl (by decide) (by decide) (s_X11_thrown L1.2.1.1 I3) ?_
  refine Ev.iload dL_law_1740 rfl ?_
  refine Ei.icmp_eq_t (tgt := 1747) dL_law_1742 (by decide) (show R32 ((f_generation (sx X i 1) v).2 0 0) from ⟨by omega, by omega⟩) (show R32 ((f_generation (sx X i 1) v).2 0 0) from ⟨by omega, by omega⟩) rfl ?_
  refine Ev.iload dL_law_1747 rfl ?_
  by_cases z : (f_generation (sx X i 1) v).2 0 0 = 0
  · refine Ei.if_ne_f (tgt := 1764) dL_law_1749 (by decide) (show R32 ((f_generation (sx X i 1) v).2 0 0) from ⟨by omega, by omega⟩) (fun q => q z) ?_
    refine Ev.aload_n (i := 3) dL_law_1752 rfl rfl ?_
    refine Ei.const dL_law_1753 ?_
    refine Ev.lald L1.2.2.1.1 (vin0 L1.2.2.1.2) dL_law_1754 ?_
    rw [clamp0, show (Hm τ m0 (f_generation (sx X i 1) v).2).lv oL 0 = (i32 (f_generation (sx X i 1) v).1).toInt64 from hz z]
    refine Ev.iload dL_law_1755 rfl ?_
    refine Ev.i2l dL_law_1757 rfl ?_
    refine Ev.lcmp dL_law_1758 ?_
    rw [lcmp_s]
    refine Ei.if_eq_t (tgt := 1764) dL_law_1759 (by decide) ⟨by decide, by decide⟩ rfl ?_
    refine Ev.goto (tgt := 2228) dL_law_1764 (by decide) ?_
    exact Ev.fgt (ls' := lsL X (A 13 0) m0 oL oD i) ⟨rfl, ⟨rfl, ⟨rfl, ⟨rfl, ⟨rfl, ⟨rfl, trivial⟩⟩⟩⟩⟩⟩ fin
  · refine Ei.if_ne_t (tgt := 1764) dL_law_1749 (by decide) (show R32 ((f_generation (sx X i 1) v).2 0 0) from ⟨by omega, by omega⟩) z ?_
    refine Ev.goto (tgt := 2228) dL_law_1764 (by decide) ?_
    exact Ev.fgt (ls' := lsL X (A 13 0) m0 oL oD i) ⟨rfl, ⟨rfl, ⟨rfl, ⟨rfl, ⟨rfl, ⟨rfl, trivial⟩⟩⟩⟩⟩⟩ fin
theorem c_stage {X : Cx} {σ : Hp} {A : Nat → Int → Nat} {c : Cs} {B : Int → Nat} {m0 oL oD : Nat} {v : Vw} {T E i : Int} (hN : KN X) (hL : LW X σ A c B m0 oL oD v) (hV : INV c v) (hI : IM v T E) (hT : T + 31 ≤ 20000) (hE : E + 102300 ≤ 1000000000) (hi : 0 ≤ i) (hi3 : i + 3 < X.sL) (hs : X.sL ≤ 2048) :
    ∃ τ A' B', (LW X τ A' (g_X10_stage (sx X i 1) c).2 B' m0 oL oD (f_stage (sx X i 1) v).2 ∧ INV (g_X10_stage (sx X i 1) c).2 (f_stage (sx X i 1) v).2 ∧ IM (f_stage (sx X i 1) v).2 (T + 31) (E + 102300) ∧ A' 13 0 = A 13 0) ∧ ∀ (o : Rs) (τf : Hp), Ev X m_L_law 30 2228 (lsL X (A 13 0) m0 oL oD i) [] τ o τf → Ev X m_L_law 30 1767 (lsL X (A 13 0) m0 oL oD i) [] σ o τf := by
  have hT0 := hI.1
  have hI2 : IM v (T + 31) E := hI.mono (by omega) (Int.le_refl _) (by omega) (by omega)
  obtain ⟨τ, A2, B2, hC, L1, hV2, e13, hz⟩ := w_stage hN hL hV hI2 (sx_r X i 1)
  have I3 : IM (f_stage (sx X i 1) v).2 (T + 31) (E + 102300) := (i_stage hI2 (sx_r X i 1)).mono (Int.le_refl _) (by omega) (by omega) (by omega)
  have t0 : 0 ≤ (f_stage (sx X i 1) v).2 0 0 ∧ (f_stage (sx X i 1) v).2 0 0 ≤ 4 := I3.2 0 0
  refine ⟨Hm τ m0 (f_stage (sx X i 1) v).2, A2, B2, ⟨L1.mod _, hV2, I3, e13⟩, fun o τf fin => ?_⟩
  refine Ev.aload_n (i := 1) dL_law_1767 rfl rfl ?_
  refine Ev.aload_n (i := 0) dL_law_1768 rfl rfl ?_
  refine Ev.iload dL_law_1769 rfl ?_
  refine Ei.const dL_law_1771 ?_
  refine Ei.add dL_law_1772 ?_
  refine Ev.rdS (by omega) (by omega) hs dL_law_1773 ?_
  refine Ev.aload_n (i := 3) dL_law_1774 rfl rfl ?_
  refine Ev.callSH (As := [_, _, _]) (v := some (.int (i32 ((f_stage (sx X i 1) v).2 0 0)))) k_L_stage (tb6 (i := 141) rfl) ki_L_stage dL_law_1775 rfl rfl (by decide) (by decide) hC ?_
  refine Ev.istore dL_law_1778 (by decide) ?_
  refine Ev.hp L1.2.1.2 ?_
  refine Ev.aload_n (i := 2) dL_law_1780 rfl rfl ?_
  refine Ev.aload_n (i := 0) dL_law_1781 rfl rfl ?_
  refine Ev.iload dL_law_1782 rfl ?_
  refine Ei.const dL_law_1784 ?_
  refine Ei.add dL_law_1785 ?_
  refine Ev.rdS (by omega) (by omega) hs dL_law_1786 ?_
  refine Em.cv1 (As := [_]) L1.2.1.1 k_X11_stage (tb8 (i := 115) rfl) ki_X11_stage kv_X11_stage dL_law_1787 rfl rfl (by decide) (by decide) (s_X11_stage L1.2.1.1 hI2 (sx_r X i 1)) ?_
  refine Ev.istore dL_law_1790 (by decide) ?_
  refine Ev.aload_n (i := 2) dL_law_1792 rfl rfl ?_
  refine Em.cv1 (As := []) L1.2.1.1 k_X11_thrown (tb7 (i := 114) rfl) ki_X11_thrown kv_X11_thrown dL_law_1793 rfl rfl (by decide) (by decide) (s_X11_thrown L1.2.1.1 I3) ?_
  refine Ev.iload dL_law_1796 rfl ?_
  refine Ei.icmp_eq_t (tgt := 1803) dL_law_1798 (by decide) (show R32 ((f_stage (sx X i 1) v).2 0 0) from ⟨by omega, by omega⟩) (show R32 ((f_stage (sx X i 1) v).2 0 0) from ⟨by omega, by omega⟩) rfl ?_
  refine Ev.iload dL_law_1803 rfl ?_
  by_cases z : (f_stage (sx X i 1) v).2 0 0 = 0
  · refine Ei.if_ne_f (tgt := 1820) dL_law_1805 (by decide) (show R32 ((f_stage (sx X i 1) v).2 0 0) from ⟨by omega, by omega⟩) (fun q => q z) ?_
    refine Ev.aload_n (i := 3) dL_law_1808 rfl rfl ?_
    refine Ei.const dL_law_1809 ?_
    refine Ev.lald L1.2.2.1.1 (vin0 L1.2.2.1.2) dL_law_1810 ?_
    rw [clamp0, show (Hm τ m0 (f_stage (sx X i 1) v).2).lv oL 0 = (i32 (f_stage (sx X i 1) v).1).toInt64 from hz z]
    refine Ev.iload dL_law_1811 rfl ?_
    refine Ev.i2l dL_law_1813 rfl ?_
    refine Ev.lcmp dL_law_1814 ?_
    rw [lcmp_s]
    refine Ei.if_eq_t (tgt := 1820) dL_law_1815 (by decide) ⟨by decide, by decide⟩ rfl ?_
    refine Ev.goto (tgt := 2228) dL_law_1820 (by decide) ?_
    exact Ev.fgt (ls' := lsL X (A 13 0) m0 oL oD i) ⟨rfl, ⟨rfl, ⟨rfl, ⟨rfl, ⟨rfl, ⟨rfl, trivial⟩⟩⟩⟩⟩⟩ fin
  · refine Ei.if_ne_t (tgt := 1820) dL_law_1805 (by decide) (show R32 ((f_stage (sx X i 1) v).2 0 0) from ⟨by omega, by omega⟩) z ?_
    refine Ev.goto (tgt := 2228) dL_law_1820 (by decide) ?_
    exact Ev.fgt (ls' := lsL X (A 13 0) m0 oL oD i) ⟨rfl, ⟨rfl, ⟨rfl, ⟨rfl, ⟨rfl, ⟨rfl, trivial⟩⟩⟩⟩⟩⟩ fin
theorem c_vesselOf {X : Cx} {σ : Hp} {A : Nat → Int → Nat} {c : Cs} {B : Int → Nat} {m0 oL oD : Nat} {v : Vw} {T E i : Int} (hN : KN X) (hL : LW X σ A c B m0 oL oD v) (hV : INV c v) (hI : IM v T E) (hT : T + 31 ≤ 20000) (hE : E + 102300 ≤ 1000000000) (hi : 0 ≤ i) (hi3 : i + 3 < X.sL) (hs : X.sL ≤ 2048) :
    ∃ τ A' B', (LW X τ A' (g_X10_vesselOf (sx X i 1) c).2 B' m0 oL oD (f_vesselOf (sx X i 1) v).2 ∧ INV (g_X10_vesselOf (sx X i 1) c).2 (f_vesselOf (sx X i 1) v).2 ∧ IM (f_vesselOf (sx X i 1) v).2 (T + 31) (E + 102300) ∧ A' 13 0 = A 13 0) ∧ ∀ (o : Rs) (τf : Hp), Ev X m_L_law 30 2228 (lsL X (A 13 0) m0 oL oD i) [] τ o τf → Ev X m_L_law 30 1823 (lsL X (A 13 0) m0 oL oD i) [] σ o τf := by
  have hT0 := hI.1
  have hI2 : IM v (T + 31) E := hI.mono (by omega) (Int.le_refl _) (by omega) (by omega)
  obtain ⟨τ, A2, B2, hC, L1, hV2, e13, hz⟩ := w_vesselOf hN hL hV hI2 (sx_r X i 1)
  have I3 : IM (f_vesselOf (sx X i 1) v).2 (T + 31) (E + 102300) := (i_vesselOf hI2 (sx_r X i 1)).mono (Int.le_refl _) (by omega) (by omega) (by omega)
  have t0 : 0 ≤ (f_vesselOf (sx X i 1) v).2 0 0 ∧ (f_vesselOf (sx X i 1) v).2 0 0 ≤ 4 := I3.2 0 0
  refine ⟨Hm τ m0 (f_vesselOf (sx X i 1) v).2, A2, B2, ⟨L1.mod _, hV2, I3, e13⟩, fun o τf fin => ?_⟩
  refine Ev.aload_n (i := 1) dL_law_1823 rfl rfl ?_
  refine Ev.aload_n (i := 0) dL_law_1824 rfl rfl ?_
  refine Ev.iload dL_law_1825 rfl ?_
  refine Ei.const dL_law_1827 ?_
  refine Ei.add dL_law_1828 ?_
  refine Ev.rdS (by omega) (by omega) hs dL_law_1829 ?_
  refine Ev.aload_n (i := 3) dL_law_1830 rfl rfl ?_
  refine Ev.callSH (As := [_, _, _]) (v := some (.int (i32 ((f_vesselOf (sx X i 1) v).2 0 0)))) k_L_vesselOf (tb6 (i := 148) rfl) ki_L_vesselOf dL_law_1831 rfl rfl (by decide) (by decide) hC ?_
  refine Ev.istore dL_law_1834 (by decide) ?_
  refine Ev.hp L1.2.1.2 ?_
  refine Ev.aload_n (i := 2) dL_law_1836 rfl rfl ?_
  refine Ev.aload_n (i := 0) dL_law_1837 rfl rfl ?_
  refine Ev.iload dL_law_1838 rfl ?_
  refine Ei.const dL_law_1840 ?_
  refine Ei.add dL_law_1841 ?_
  refine Ev.rdS (by omega) (by omega) hs dL_law_1842 ?_
  refine Em.cv1 (As := [_]) L1.2.1.1 k_X11_vesselOf (tb8 (i := 119) rfl) ki_X11_vesselOf kv_X11_vesselOf dL_law_1843 rfl rfl (by decide) (by decide) (s_X11_vesselOf L1.2.1.1 hI2 (sx_r X i 1)) ?_
  refine Ev.istore dL_law_1846 (by decide) ?_
  refine Ev.aload_n (i := 2) dL_law_1848 rfl rfl ?_
  refine Em.cv1 (As := []) L1.2.1.1 k_X11_thrown (tb7 (i := 114) rfl) ki_X11_thrown kv_X11_thrown dL_law_1849 rfl rfl (by decide) (by decide) (s_X11_thrown L1.2.1.1 I3) ?_
  refine Ev.iload dL_law_1852 rfl ?_
  refine Ei.icmp_eq_t (tgt := 1859) dL_law_1854 (by decide) (show R32 ((f_vesselOf (sx X i 1) v).2 0 0) from ⟨by omega, by omega⟩) (show R32 ((f_vesselOf (sx X i 1) v).2 0 0) from ⟨by omega, by omega⟩) rfl ?_
  refine Ev.iload dL_law_1859 rfl ?_
  by_cases z : (f_vesselOf (sx X i 1) v).2 0 0 = 0
  · refine Ei.if_ne_f (tgt := 1876) dL_law_1861 (by decide) (show R32 ((f_vesselOf (sx X i 1) v).2 0 0) from ⟨by omega, by omega⟩) (fun q => q z) ?_
    refine Ev.aload_n (i := 3) dL_law_1864 rfl rfl ?_
    refine Ei.const dL_law_1865 ?_
    refine Ev.lald L1.2.2.1.1 (vin0 L1.2.2.1.2) dL_law_1866 ?_
    rw [clamp0, show (Hm τ m0 (f_vesselOf (sx X i 1) v).2).lv oL 0 = (i32 (f_vesselOf (sx X i 1) v).1).toInt64 from hz z]
    refine Ev.iload dL_law_1867 rfl ?_
    refine Ev.i2l dL_law_1869 rfl ?_
    refine Ev.lcmp dL_law_1870 ?_
    rw [lcmp_s]
    refine Ei.if_eq_t (tgt := 1876) dL_law_1871 (by decide) ⟨by decide, by decide⟩ rfl ?_
    refine Ev.goto (tgt := 2228) dL_law_1876 (by decide) ?_
    exact Ev.fgt (ls' := lsL X (A 13 0) m0 oL oD i) ⟨rfl, ⟨rfl, ⟨rfl, ⟨rfl, ⟨rfl, ⟨rfl, trivial⟩⟩⟩⟩⟩⟩ fin
  · refine Ei.if_ne_t (tgt := 1876) dL_law_1861 (by decide) (show R32 ((f_vesselOf (sx X i 1) v).2 0 0) from ⟨by omega, by omega⟩) z ?_
    refine Ev.goto (tgt := 2228) dL_law_1876 (by decide) ?_
    exact Ev.fgt (ls' := lsL X (A 13 0) m0 oL oD i) ⟨rfl, ⟨rfl, ⟨rfl, ⟨rfl, ⟨rfl, ⟨rfl, trivial⟩⟩⟩⟩⟩⟩ fin
theorem c_daysToGo {X : Cx} {σ : Hp} {A : Nat → Int → Nat} {c : Cs} {B : Int → Nat} {m0 oL oD : Nat} {v : Vw} {T E i : Int} (hN : KN X) (hL : LW X σ A c B m0 oL oD v) (hV : INV c v) (hI : IM v T E) (hT : T + 31 ≤ 20000) (hE : E + 102300 ≤ 1000000000) (hi : 0 ≤ i) (hi3 : i + 3 < X.sL) (hs : X.sL ≤ 2048) :
    ∃ τ A' B', (LW X τ A' (g_X10_daysToGo (sx X i 1) c).2 B' m0 oL oD (f_daysToGo (sx X i 1) v).2 ∧ INV (g_X10_daysToGo (sx X i 1) c).2 (f_daysToGo (sx X i 1) v).2 ∧ IM (f_daysToGo (sx X i 1) v).2 (T + 31) (E + 102300) ∧ A' 13 0 = A 13 0) ∧ ∀ (o : Rs) (τf : Hp), Ev X m_L_law 30 2228 (lsL X (A 13 0) m0 oL oD i) [] τ o τf → Ev X m_L_law 30 1879 (lsL X (A 13 0) m0 oL oD i) [] σ o τf := by
  have hT0 := hI.1
  have hI2 : IM v (T + 31) E := hI.mono (by omega) (Int.le_refl _) (by omega) (by omega)
  obtain ⟨τ, A2, B2, hC, L1, hV2, e13, hz⟩ := w_daysToGo hN hL hV hI2 (sx_r X i 1)
  have I3 : IM (f_daysToGo (sx X i 1) v).2 (T + 31) (E + 102300) := (i_daysToGo hI2 (sx_r X i 1)).mono (Int.le_refl _) (by omega) (by omega) (by omega)
  have t0 : 0 ≤ (f_daysToGo (sx X i 1) v).2 0 0 ∧ (f_daysToGo (sx X i 1) v).2 0 0 ≤ 4 := I3.2 0 0
  refine ⟨Hm τ m0 (f_daysToGo (sx X i 1) v).2, A2, B2, ⟨L1.mod _, hV2, I3, e13⟩, fun o τf fin => ?_⟩
  refine Ev.aload_n (i := 1) dL_law_1879 rfl rfl ?_
  refine Ev.aload_n (i := 0) dL_law_1880 rfl rfl ?_
  refine Ev.iload dL_law_1881 rfl ?_
  refine Ei.const dL_law_1883 ?_
  refine Ei.add dL_law_1884 ?_
  refine Ev.rdS (by omega) (by omega) hs dL_law_1885 ?_
  refine Ev.aload_n (i := 3) dL_law_1886 rfl rfl ?_
  refine Ev.callSH (As := [_, _, _]) (v := some (.int (i32 ((f_daysToGo (sx X i 1) v).2 0 0)))) k_L_daysToGo (tb6 (i := 156) rfl) ki_L_daysToGo dL_law_1887 rfl rfl (by decide) (by decide) hC ?_
  refine Ev.istore dL_law_1890 (by decide) ?_
  refine Ev.hp L1.2.1.2 ?_
  refine Ev.aload_n (i := 2) dL_law_1892 rfl rfl ?_
  refine Ev.aload_n (i := 0) dL_law_1893 rfl rfl ?_
  refine Ev.iload dL_law_1894 rfl ?_
  refine Ei.const dL_law_1896 ?_
  refine Ei.add dL_law_1897 ?_
  refine Ev.rdS (by omega) (by omega) hs dL_law_1898 ?_
  refine Em.cv1 (As := [_]) L1.2.1.1 k_X11_daysToGo (tb8 (i := 123) rfl) ki_X11_daysToGo kv_X11_daysToGo dL_law_1899 rfl rfl (by decide) (by decide) (s_X11_daysToGo L1.2.1.1 hI2 (sx_r X i 1)) ?_
  refine Ev.istore dL_law_1902 (by decide) ?_
  refine Ev.aload_n (i := 2) dL_law_1904 rfl rfl ?_
  refine Em.cv1 (As := []) L1.2.1.1 k_X11_thrown (tb7 (i := 114) rfl) ki_X11_thrown kv_X11_thrown dL_law_1905 rfl rfl (by decide) (by decide) (s_X11_thrown L1.2.1.1 I3) ?_
  refine Ev.iload dL_law_1908 rfl ?_
  refine Ei.icmp_eq_t (tgt := 1915) dL_law_1910 (by decide) (show R32 ((f_daysToGo (sx X i 1) v).2 0 0) from ⟨by omega, by omega⟩) (show R32 ((f_daysToGo (sx X i 1) v).2 0 0) from ⟨by omega, by omega⟩) rfl ?_
  refine Ev.iload dL_law_1915 rfl ?_
  by_cases z : (f_daysToGo (sx X i 1) v).2 0 0 = 0
  · refine Ei.if_ne_f (tgt := 1932) dL_law_1917 (by decide) (show R32 ((f_daysToGo (sx X i 1) v).2 0 0) from ⟨by omega, by omega⟩) (fun q => q z) ?_
    refine Ev.aload_n (i := 3) dL_law_1920 rfl rfl ?_
    refine Ei.const dL_law_1921 ?_
    refine Ev.lald L1.2.2.1.1 (vin0 L1.2.2.1.2) dL_law_1922 ?_
    rw [clamp0, show (Hm τ m0 (f_daysToGo (sx X i 1) v).2).lv oL 0 = (i32 (f_daysToGo (sx X i 1) v).1).toInt64 from hz z]
    refine Ev.iload dL_law_1923 rfl ?_
    refine Ev.i2l dL_law_1925 rfl ?_
    refine Ev.lcmp dL_law_1926 ?_
    rw [lcmp_s]
    refine Ei.if_eq_t (tgt := 1932) dL_law_1927 (by decide) ⟨by decide, by decide⟩ rfl ?_
    refine Ev.goto (tgt := 2228) dL_law_1932 (by decide) ?_
    exact Ev.fgt (ls' := lsL X (A 13 0) m0 oL oD i) ⟨rfl, ⟨rfl, ⟨rfl, ⟨rfl, ⟨rfl, ⟨rfl, trivial⟩⟩⟩⟩⟩⟩ fin
  · refine Ei.if_ne_t (tgt := 1932) dL_law_1917 (by decide) (show R32 ((f_daysToGo (sx X i 1) v).2 0 0) from ⟨by omega, by omega⟩) z ?_
    refine Ev.goto (tgt := 2228) dL_law_1932 (by decide) ?_
    exact Ev.fgt (ls' := lsL X (A 13 0) m0 oL oD i) ⟨rfl, ⟨rfl, ⟨rfl, ⟨rfl, ⟨rfl, ⟨rfl, trivial⟩⟩⟩⟩⟩⟩ fin
theorem c_stock {X : Cx} {σ : Hp} {A : Nat → Int → Nat} {c : Cs} {B : Int → Nat} {m0 oL oD : Nat} {v : Vw} {T E i : Int} (hN : KN X) (hL : LW X σ A c B m0 oL oD v) (hV : INV c v) (hI : IM v T E) (hT : T + 31 ≤ 20000) (hE : E + 102300 ≤ 1000000000) (hi : 0 ≤ i) (hi3 : i + 3 < X.sL) (hs : X.sL ≤ 2048) :
    ∃ τ A' B', (LW X τ A' (g_X10_stock (sx X i 1) c).2 B' m0 oL oD (f_stock (sx X i 1) v).2 ∧ INV (g_X10_stock (sx X i 1) c).2 (f_stock (sx X i 1) v).2 ∧ IM (f_stock (sx X i 1) v).2 (T + 31) (E + 102300) ∧ A' 13 0 = A 13 0) ∧ ∀ (o : Rs) (τf : Hp), Ev X m_L_law 30 2228 (lsL X (A 13 0) m0 oL oD i) [] τ o τf → Ev X m_L_law 30 1935 (lsL X (A 13 0) m0 oL oD i) [] σ o τf := by
  have hT0 := hI.1
  have hI2 : IM v (T + 31) E := hI.mono (by omega) (Int.le_refl _) (by omega) (by omega)
  obtain ⟨τ, A2, B2, hC, L1, hV2, e13, hz⟩ := w_stock hN hL hV hI2 (sx_r X i 1)
  have I3 : IM (f_stock (sx X i 1) v).2 (T + 31) (E + 102300) := (i_stock hI2 (sx_r X i 1)).mono (Int.le_refl _) (by omega) (by omega) (by omega)
  have t0 : 0 ≤ (f_stock (sx X i 1) v).2 0 0 ∧ (f_stock (sx X i 1) v).2 0 0 ≤ 4 := I3.2 0 0
  refine ⟨Hm τ m0 (f_stock (sx X i 1) v).2, A2, B2, ⟨L1.mod _, hV2, I3, e13⟩, fun o τf fin => ?_⟩
  refine Ev.aload_n (i := 1) dL_law_1935 rfl rfl ?_
  refine Ev.aload_n (i := 0) dL_law_1936 rfl rfl ?_
  refine Ev.iload dL_law_1937 rfl ?_
  refine Ei.const dL_law_1939 ?_
  refine Ei.add dL_law_1940 ?_
  refine Ev.rdS (by omega) (by omega) hs dL_law_1941 ?_
  refine Ev.aload_n (i := 3) dL_law_1942 rfl rfl ?_
  refine Ev.callSH (As := [_, _, _]) (v := some (.int (i32 ((f_stock (sx X i 1) v).2 0 0)))) k_L_stock (tb6 (i := 164) rfl) ki_L_stock dL_law_1943 rfl rfl (by decide) (by decide) hC ?_
  refine Ev.istore dL_law_1946 (by decide) ?_
  refine Ev.hp L1.2.1.2 ?_
  refine Ev.aload_n (i := 2) dL_law_1948 rfl rfl ?_
  refine Ev.aload_n (i := 0) dL_law_1949 rfl rfl ?_
  refine Ev.iload dL_law_1950 rfl ?_
  refine Ei.const dL_law_1952 ?_
  refine Ei.add dL_law_1953 ?_
  refine Ev.rdS (by omega) (by omega) hs dL_law_1954 ?_
  refine Em.cv1 (As := [_]) L1.2.1.1 k_X11_stock (tb8 (i := 127) rfl) ki_X11_stock kv_X11_stock dL_law_1955 rfl rfl (by decide) (by decide) (s_X11_stock L1.2.1.1 hI2 (sx_r X i 1)) ?_
  refine Ev.istore dL_law_1958 (by decide) ?_
  refine Ev.aload_n (i := 2) dL_law_1960 rfl rfl ?_
  refine Em.cv1 (As := []) L1.2.1.1 k_X11_thrown (tb7 (i := 114) rfl) ki_X11_thrown kv_X11_thrown dL_law_1961 rfl rfl (by decide) (by decide) (s_X11_thrown L1.2.1.1 I3) ?_
  refine Ev.iload dL_law_1964 rfl ?_
  refine Ei.icmp_eq_t (tgt := 1971) dL_law_1966 (by decide) (show R32 ((f_stock (sx X i 1) v).2 0 0) from ⟨by omega, by omega⟩) (show R32 ((f_stock (sx X i 1) v).2 0 0) from ⟨by omega, by omega⟩) rfl ?_
  refine Ev.iload dL_law_1971 rfl ?_
  by_cases z : (f_stock (sx X i 1) v).2 0 0 = 0
  · refine Ei.if_ne_f (tgt := 1988) dL_law_1973 (by decide) (show R32 ((f_stock (sx X i 1) v).2 0 0) from ⟨by omega, by omega⟩) (fun q => q z) ?_
    refine Ev.aload_n (i := 3) dL_law_1976 rfl rfl ?_
    refine Ei.const dL_law_1977 ?_
    refine Ev.lald L1.2.2.1.1 (vin0 L1.2.2.1.2) dL_law_1978 ?_
    rw [clamp0, show (Hm τ m0 (f_stock (sx X i 1) v).2).lv oL 0 = (i32 (f_stock (sx X i 1) v).1).toInt64 from hz z]
    refine Ev.iload dL_law_1979 rfl ?_
    refine Ev.i2l dL_law_1981 rfl ?_
    refine Ev.lcmp dL_law_1982 ?_
    rw [lcmp_s]
    refine Ei.if_eq_t (tgt := 1988) dL_law_1983 (by decide) ⟨by decide, by decide⟩ rfl ?_
    refine Ev.goto (tgt := 2228) dL_law_1988 (by decide) ?_
    exact Ev.fgt (ls' := lsL X (A 13 0) m0 oL oD i) ⟨rfl, ⟨rfl, ⟨rfl, ⟨rfl, ⟨rfl, ⟨rfl, trivial⟩⟩⟩⟩⟩⟩ fin
  · refine Ei.if_ne_t (tgt := 1988) dL_law_1973 (by decide) (show R32 ((f_stock (sx X i 1) v).2 0 0) from ⟨by omega, by omega⟩) z ?_
    refine Ev.goto (tgt := 2228) dL_law_1988 (by decide) ?_
    exact Ev.fgt (ls' := lsL X (A 13 0) m0 oL oD i) ⟨rfl, ⟨rfl, ⟨rfl, ⟨rfl, ⟨rfl, ⟨rfl, trivial⟩⟩⟩⟩⟩⟩ fin
theorem c_stockByDeliveries {X : Cx} {σ : Hp} {A : Nat → Int → Nat} {c : Cs} {B : Int → Nat} {m0 oL oD : Nat} {v : Vw} {T E i : Int} (hN : KN X) (hL : LW X σ A c B m0 oL oD v) (hV : INV c v) (hI : IM v T E) (hT : T + 31 ≤ 20000) (hE : E + 102300 ≤ 1000000000) (hi : 0 ≤ i) (hi3 : i + 3 < X.sL) (hs : X.sL ≤ 2048) :
    ∃ τ A' B', (LW X τ A' (g_X10_stockByDeliveries (sx X i 1) c).2 B' m0 oL oD (f_stockByDeliveries (sx X i 1) v).2 ∧ INV (g_X10_stockByDeliveries (sx X i 1) c).2 (f_stockByDeliveries (sx X i 1) v).2 ∧ IM (f_stockByDeliveries (sx X i 1) v).2 (T + 31) (E + 102300) ∧ A' 13 0 = A 13 0) ∧ ∀ (o : Rs) (τf : Hp), Ev X m_L_law 30 2228 (lsL X (A 13 0) m0 oL oD i) [] τ o τf → Ev X m_L_law 30 1991 (lsL X (A 13 0) m0 oL oD i) [] σ o τf := by
  have hT0 := hI.1
  have hI2 : IM v (T + 31) E := hI.mono (by omega) (Int.le_refl _) (by omega) (by omega)
  obtain ⟨τ, A2, B2, hC, L1, hV2, e13, hz⟩ := w_stockByDeliveries hN hL hV hI2 (sx_r X i 1)
  have I3 : IM (f_stockByDeliveries (sx X i 1) v).2 (T + 31) (E + 102300) := (i_stockByDeliveries hI2 (sx_r X i 1)).mono (Int.le_refl _) (by omega) (by omega) (by omega)
  have t0 : 0 ≤ (f_stockByDeliveries (sx X i 1) v).2 0 0 ∧ (f_stockByDeliveries (sx X i 1) v).2 0 0 ≤ 4 := I3.2 0 0
  refine ⟨Hm τ m0 (f_stockByDeliveries (sx X i 1) v).2, A2, B2, ⟨L1.mod _, hV2, I3, e13⟩, fun o τf fin => ?_⟩
  refine Ev.aload_n (i := 1) dL_law_1991 rfl rfl ?_
  refine Ev.aload_n (i := 0) dL_law_1992 rfl rfl ?_
  refine Ev.iload dL_law_1993 rfl ?_
  refine Ei.const dL_law_1995 ?_
  refine Ei.add dL_law_1996 ?_
  refine Ev.rdS (by omega) (by omega) hs dL_law_1997 ?_
  refine Ev.aload_n (i := 3) dL_law_1998 rfl rfl ?_
  refine Ev.callSH (As := [_, _, _]) (v := some (.int (i32 ((f_stockByDeliveries (sx X i 1) v).2 0 0)))) k_L_stockByDeliveries (tb6 (i := 171) rfl) ki_L_stockByDeliveries dL_law_1999 rfl rfl (by decide) (by decide) hC ?_
  refine Ev.istore dL_law_2002 (by decide) ?_
  refine Ev.hp L1.2.1.2 ?_
  refine Ev.aload_n (i := 2) dL_law_2004 rfl rfl ?_
  refine Ev.aload_n (i := 0) dL_law_2005 rfl rfl ?_
  refine Ev.iload dL_law_2006 rfl ?_
  refine Ei.const dL_law_2008 ?_
  refine Ei.add dL_law_2009 ?_
  refine Ev.rdS (by omega) (by omega) hs dL_law_2010 ?_
  refine Em.cv1 (As := [_]) L1.2.1.1 k_X11_stockByDeliveries (tb8 (i := 131) rfl) ki_X11_stockByDeliveries kv_X11_stockByDeliveries dL_law_2011 rfl rfl (by decide) (by decide) (s_X11_stockByDeliveries L1.2.1.1 hI2 (sx_r X i 1)) ?_
  refine Ev.istore dL_law_2014 (by decide) ?_
  refine Ev.aload_n (i := 2) dL_law_2016 rfl rfl ?_
  refine Em.cv1 (As := []) L1.2.1.1 k_X11_thrown (tb7 (i := 114) rfl) ki_X11_thrown kv_X11_thrown dL_law_2017 rfl rfl (by decide) (by decide) (s_X11_thrown L1.2.1.1 I3) ?_
  refine Ev.iload dL_law_2020 rfl ?_
  refine Ei.icmp_eq_t (tgt := 2027) dL_law_2022 (by decide) (show R32 ((f_stockByDeliveries (sx X i 1) v).2 0 0) from ⟨by omega, by omega⟩) (show R32 ((f_stockByDeliveries (sx X i 1) v).2 0 0) from ⟨by omega, by omega⟩) rfl ?_
  refine Ev.iload dL_law_2027 rfl ?_
  by_cases z : (f_stockByDeliveries (sx X i 1) v).2 0 0 = 0
  · refine Ei.if_ne_f (tgt := 2044) dL_law_2029 (by decide) (show R32 ((f_stockByDeliveries (sx X i 1) v).2 0 0) from ⟨by omega, by omega⟩) (fun q => q z) ?_
    refine Ev.aload_n (i := 3) dL_law_2032 rfl rfl ?_
    refine Ei.const dL_law_2033 ?_
    refine Ev.lald L1.2.2.1.1 (vin0 L1.2.2.1.2) dL_law_2034 ?_
    rw [clamp0, show (Hm τ m0 (f_stockByDeliveries (sx X i 1) v).2).lv oL 0 = (i32 (f_stockByDeliveries (sx X i 1) v).1).toInt64 from hz z]
    refine Ev.iload dL_law_2035 rfl ?_
    refine Ev.i2l dL_law_2037 rfl ?_
    refine Ev.lcmp dL_law_2038 ?_
    rw [lcmp_s]
    refine Ei.if_eq_t (tgt := 2044) dL_law_2039 (by decide) ⟨by decide, by decide⟩ rfl ?_
    refine Ev.goto (tgt := 2228) dL_law_2044 (by decide) ?_
    exact Ev.fgt (ls' := lsL X (A 13 0) m0 oL oD i) ⟨rfl, ⟨rfl, ⟨rfl, ⟨rfl, ⟨rfl, ⟨rfl, trivial⟩⟩⟩⟩⟩⟩ fin
  · refine Ei.if_ne_t (tgt := 2044) dL_law_2029 (by decide) (show R32 ((f_stockByDeliveries (sx X i 1) v).2 0 0) from ⟨by omega, by omega⟩) z ?_
    refine Ev.goto (tgt := 2228) dL_law_2044 (by decide) ?_
    exact Ev.fgt (ls' := lsL X (A 13 0) m0 oL oD i) ⟨rfl, ⟨rfl, ⟨rfl, ⟨rfl, ⟨rfl, ⟨rfl, trivial⟩⟩⟩⟩⟩⟩ fin
theorem c_deliveries {X : Cx} {σ : Hp} {A : Nat → Int → Nat} {c : Cs} {B : Int → Nat} {m0 oL oD : Nat} {v : Vw} {T E i : Int} (hL : LW X σ A c B m0 oL oD v) (hV : INV c v) (hI : IM v T E) (hT : T + 31 ≤ 20000) (hE : E + 102300 ≤ 1000000000) :
    ∃ τ A' B', (LW X τ A' c B' m0 oL oD (f_deliveries v).2 ∧ INV c (f_deliveries v).2 ∧ IM (f_deliveries v).2 (T + 31) (E + 102300) ∧ A' 13 0 = A 13 0) ∧ ∀ (o : Rs) (τf : Hp), Ev X m_L_law 30 2228 (lsL X (A 13 0) m0 oL oD i) [] τ o τf → Ev X m_L_law 30 2047 (lsL X (A 13 0) m0 oL oD i) [] σ o τf := by
  have hT0 := hI.1
  obtain ⟨hA, hV2⟩ := fc_deliveries hV hI
  obtain ⟨τ, A2, B2, hC, hS, hE2, hw⟩ := s_X10_deliveries (X := X) (ρ := σ) (c := c) A σ B hL.1 (ws1 hL.1.2)
  obtain ⟨L1, l2, l3⟩ := hL.call hS
  have e13 := (hE2 13 0 (rg13 hL.1.2)).1
  have kd13 : σ.kd (A 13 0) = 14 := hL.1.1.kd (rg13 hL.1.2)
  have I3 : IM (f_deliveries v).2 (T + 31) (E + 102300) := (i_deliveries hI).mono (by omega) (by omega) (by omega) (by omega)
  rw [hA] at hC
  refine ⟨Hm τ m0 (f_deliveries v).2, A2, B2, ⟨L1.mod _, hV2, I3, e13⟩, fun o τf fin => ?_⟩
  refine Ev.aload_n (i := 1) dL_law_2047 rfl rfl ?_
  refine Ev.callV (ci := 13) (C := RX10) (T := TX10) (N := 12) (As := []) (v := some (.int (i32 (f_deliveries v).1))) k_X10_deliveries rfl kd13 (tb2 (i := 4) rfl) ki_X10_deliveries kv_X10_deliveries dL_law_2048 rfl rfl (by decide) (by decide) hC ?_
  refine Ev.hp L1.2.1.2 ?_
  refine Ev.aload_n (i := 2) dL_law_2051 rfl rfl ?_
  refine Em.cv1 (As := []) L1.2.1.1 k_X11_deliveries (tb8 (i := 136) rfl) ki_X11_deliveries kv_X11_deliveries dL_law_2052 rfl rfl (Nat.le_of_ble_eq_true rfl) (by decide) (s_X11_deliveries L1.2.1.1 hI) ?_
  have u : 0 ≤ (f_deliveries v).1 ∧ (f_deliveries v).1 ≤ 127 := hI.2 9 0
  refine Ei.icmp_eq_t (tgt := 2228) dL_law_2055 (by decide) (show R32 (f_deliveries v).1 from ⟨by omega, by omega⟩) (show R32 (f_deliveries v).1 from ⟨by omega, by omega⟩) rfl ?_
  exact fin
theorem c_deliveredBrew {X : Cx} {σ : Hp} {A : Nat → Int → Nat} {c : Cs} {B : Int → Nat} {m0 oL oD : Nat} {v : Vw} {T E i : Int} (hN : KN X) (hL : LW X σ A c B m0 oL oD v) (hV : INV c v) (hI : IM v T E) (hT : T + 31 ≤ 20000) (hE : E + 102300 ≤ 1000000000) (hi : 0 ≤ i) (hi3 : i + 3 < X.sL) (hs : X.sL ≤ 2048) :
    ∃ τ A' B', (LW X τ A' (g_X10_deliveredBrew (sx X i 1) c).2 B' m0 oL oD (f_deliveredBrew (sx X i 1) v).2 ∧ INV (g_X10_deliveredBrew (sx X i 1) c).2 (f_deliveredBrew (sx X i 1) v).2 ∧ IM (f_deliveredBrew (sx X i 1) v).2 (T + 31) (E + 102300) ∧ A' 13 0 = A 13 0) ∧ ∀ (o : Rs) (τf : Hp), Ev X m_L_law 30 2228 (lsL X (A 13 0) m0 oL oD i) [] τ o τf → Ev X m_L_law 30 2060 (lsL X (A 13 0) m0 oL oD i) [] σ o τf := by
  have hT0 := hI.1
  have hI2 : IM v (T + 31) E := hI.mono (by omega) (Int.le_refl _) (by omega) (by omega)
  obtain ⟨τ, A2, B2, hC, L1, hV2, e13, hz⟩ := w_deliveredBrew hN hL hV hI2 (sx_r X i 1)
  have I3 : IM (f_deliveredBrew (sx X i 1) v).2 (T + 31) (E + 102300) := (i_deliveredBrew hI2 (sx_r X i 1)).mono (Int.le_refl _) (by omega) (by omega) (by omega)
  have t0 : 0 ≤ (f_deliveredBrew (sx X i 1) v).2 0 0 ∧ (f_deliveredBrew (sx X i 1) v).2 0 0 ≤ 4 := I3.2 0 0
  refine ⟨Hm τ m0 (f_deliveredBrew (sx X i 1) v).2, A2, B2, ⟨L1.mod _, hV2, I3, e13⟩, fun o τf fin => ?_⟩
  refine Ev.aload_n (i := 1) dL_law_2060 rfl rfl ?_
  refine Ev.aload_n (i := 0) dL_law_2061 rfl rfl ?_
  refine Ev.iload dL_law_2062 rfl ?_
  refine Ei.const dL_law_2064 ?_
  refine Ei.add dL_law_2065 ?_
  refine Ev.rdS (by omega) (by omega) hs dL_law_2066 ?_
  refine Ev.aload_n (i := 3) dL_law_2067 rfl rfl ?_
  refine Ev.callSH (As := [_, _, _]) (v := some (.int (i32 ((f_deliveredBrew (sx X i 1) v).2 0 0)))) k_L_deliveredBrew (tb6 (i := 178) rfl) ki_L_deliveredBrew dL_law_2068 rfl rfl (by decide) (by decide) hC ?_
  refine Ev.istore dL_law_2071 (by decide) ?_
  refine Ev.hp L1.2.1.2 ?_
  refine Ev.aload_n (i := 2) dL_law_2073 rfl rfl ?_
  refine Ev.aload_n (i := 0) dL_law_2074 rfl rfl ?_
  refine Ev.iload dL_law_2075 rfl ?_
  refine Ei.const dL_law_2077 ?_
  refine Ei.add dL_law_2078 ?_
  refine Ev.rdS (by omega) (by omega) hs dL_law_2079 ?_
  refine Em.cv1 (As := [_]) L1.2.1.1 k_X11_deliveredBrew (tb8 (i := 140) rfl) ki_X11_deliveredBrew kv_X11_deliveredBrew dL_law_2080 rfl rfl (by decide) (by decide) (s_X11_deliveredBrew L1.2.1.1 hI2 (sx_r X i 1)) ?_
  refine Ev.istore dL_law_2083 (by decide) ?_
  refine Ev.aload_n (i := 2) dL_law_2085 rfl rfl ?_
  refine Em.cv1 (As := []) L1.2.1.1 k_X11_thrown (tb7 (i := 114) rfl) ki_X11_thrown kv_X11_thrown dL_law_2086 rfl rfl (by decide) (by decide) (s_X11_thrown L1.2.1.1 I3) ?_
  refine Ev.iload dL_law_2089 rfl ?_
  refine Ei.icmp_eq_t (tgt := 2096) dL_law_2091 (by decide) (show R32 ((f_deliveredBrew (sx X i 1) v).2 0 0) from ⟨by omega, by omega⟩) (show R32 ((f_deliveredBrew (sx X i 1) v).2 0 0) from ⟨by omega, by omega⟩) rfl ?_
  refine Ev.iload dL_law_2096 rfl ?_
  by_cases z : (f_deliveredBrew (sx X i 1) v).2 0 0 = 0
  · refine Ei.if_ne_f (tgt := 2113) dL_law_2098 (by decide) (show R32 ((f_deliveredBrew (sx X i 1) v).2 0 0) from ⟨by omega, by omega⟩) (fun q => q z) ?_
    refine Ev.aload_n (i := 3) dL_law_2101 rfl rfl ?_
    refine Ei.const dL_law_2102 ?_
    refine Ev.lald L1.2.2.1.1 (vin0 L1.2.2.1.2) dL_law_2103 ?_
    rw [clamp0, show (Hm τ m0 (f_deliveredBrew (sx X i 1) v).2).lv oL 0 = (i32 (f_deliveredBrew (sx X i 1) v).1).toInt64 from hz z]
    refine Ev.iload dL_law_2104 rfl ?_
    refine Ev.i2l dL_law_2106 rfl ?_
    refine Ev.lcmp dL_law_2107 ?_
    rw [lcmp_s]
    refine Ei.if_eq_t (tgt := 2113) dL_law_2108 (by decide) ⟨by decide, by decide⟩ rfl ?_
    refine Ev.goto (tgt := 2228) dL_law_2113 (by decide) ?_
    exact Ev.fgt (ls' := lsL X (A 13 0) m0 oL oD i) ⟨rfl, ⟨rfl, ⟨rfl, ⟨rfl, ⟨rfl, ⟨rfl, trivial⟩⟩⟩⟩⟩⟩ fin
  · refine Ei.if_ne_t (tgt := 2113) dL_law_2098 (by decide) (show R32 ((f_deliveredBrew (sx X i 1) v).2 0 0) from ⟨by omega, by omega⟩) z ?_
    refine Ev.goto (tgt := 2228) dL_law_2113 (by decide) ?_
    exact Ev.fgt (ls' := lsL X (A 13 0) m0 oL oD i) ⟨rfl, ⟨rfl, ⟨rfl, ⟨rfl, ⟨rfl, ⟨rfl, trivial⟩⟩⟩⟩⟩⟩ fin
theorem c_deliveredOrder {X : Cx} {σ : Hp} {A : Nat → Int → Nat} {c : Cs} {B : Int → Nat} {m0 oL oD : Nat} {v : Vw} {T E i : Int} (hN : KN X) (hL : LW X σ A c B m0 oL oD v) (hV : INV c v) (hI : IM v T E) (hT : T + 31 ≤ 20000) (hE : E + 102300 ≤ 1000000000) (hi : 0 ≤ i) (hi3 : i + 3 < X.sL) (hs : X.sL ≤ 2048) :
    ∃ τ A' B', (LW X τ A' (g_X10_deliveredOrder (sx X i 1) c).2 B' m0 oL oD (f_deliveredOrder (sx X i 1) v).2 ∧ INV (g_X10_deliveredOrder (sx X i 1) c).2 (f_deliveredOrder (sx X i 1) v).2 ∧ IM (f_deliveredOrder (sx X i 1) v).2 (T + 31) (E + 102300) ∧ A' 13 0 = A 13 0) ∧ ∀ (o : Rs) (τf : Hp), Ev X m_L_law 30 2228 (lsL X (A 13 0) m0 oL oD i) [] τ o τf → Ev X m_L_law 30 2116 (lsL X (A 13 0) m0 oL oD i) [] σ o τf := by
  have hT0 := hI.1
  have hI2 : IM v (T + 31) E := hI.mono (by omega) (Int.le_refl _) (by omega) (by omega)
  obtain ⟨τ, A2, B2, hC, L1, hV2, e13, hz⟩ := w_deliveredOrder hN hL hV hI2 (sx_r X i 1)
  have I3 : IM (f_deliveredOrder (sx X i 1) v).2 (T + 31) (E + 102300) := (i_deliveredOrder hI2 (sx_r X i 1)).mono (Int.le_refl _) (by omega) (by omega) (by omega)
  have t0 : 0 ≤ (f_deliveredOrder (sx X i 1) v).2 0 0 ∧ (f_deliveredOrder (sx X i 1) v).2 0 0 ≤ 4 := I3.2 0 0
  refine ⟨Hm τ m0 (f_deliveredOrder (sx X i 1) v).2, A2, B2, ⟨L1.mod _, hV2, I3, e13⟩, fun o τf fin => ?_⟩
  refine Ev.aload_n (i := 1) dL_law_2116 rfl rfl ?_
  refine Ev.aload_n (i := 0) dL_law_2117 rfl rfl ?_
  refine Ev.iload dL_law_2118 rfl ?_
  refine Ei.const dL_law_2120 ?_
  refine Ei.add dL_law_2121 ?_
  refine Ev.rdS (by omega) (by omega) hs dL_law_2122 ?_
  refine Ev.aload_n (i := 3) dL_law_2123 rfl rfl ?_
  refine Ev.callSH (As := [_, _, _]) (v := some (.int (i32 ((f_deliveredOrder (sx X i 1) v).2 0 0)))) k_L_deliveredOrder (tb6 (i := 190) rfl) ki_L_deliveredOrder dL_law_2124 rfl rfl (by decide) (by decide) hC ?_
  refine Ev.istore dL_law_2127 (by decide) ?_
  refine Ev.hp L1.2.1.2 ?_
  refine Ev.aload_n (i := 2) dL_law_2129 rfl rfl ?_
  refine Ev.aload_n (i := 0) dL_law_2130 rfl rfl ?_
  refine Ev.iload dL_law_2131 rfl ?_
  refine Ei.const dL_law_2133 ?_
  refine Ei.add dL_law_2134 ?_
  refine Ev.rdS (by omega) (by omega) hs dL_law_2135 ?_
  refine Em.cv1 (As := [_]) L1.2.1.1 k_X11_deliveredOrder (tb8 (i := 148) rfl) ki_X11_deliveredOrder kv_X11_deliveredOrder dL_law_2136 rfl rfl (by decide) (by decide) (s_X11_deliveredOrder L1.2.1.1 hI2 (sx_r X i 1)) ?_
  refine Ev.istore dL_law_2139 (by decide) ?_
  refine Ev.aload_n (i := 2) dL_law_2141 rfl rfl ?_
  refine Em.cv1 (As := []) L1.2.1.1 k_X11_thrown (tb7 (i := 114) rfl) ki_X11_thrown kv_X11_thrown dL_law_2142 rfl rfl (by decide) (by decide) (s_X11_thrown L1.2.1.1 I3) ?_
  refine Ev.iload dL_law_2145 rfl ?_
  refine Ei.icmp_eq_t (tgt := 2152) dL_law_2147 (by decide) (show R32 ((f_deliveredOrder (sx X i 1) v).2 0 0) from ⟨by omega, by omega⟩) (show R32 ((f_deliveredOrder (sx X i 1) v).2 0 0) from ⟨by omega, by omega⟩) rfl ?_
  refine Ev.iload dL_law_2152 rfl ?_
  by_cases z : (f_deliveredOrder (sx X i 1) v).2 0 0 = 0
  · refine Ei.if_ne_f (tgt := 2169) dL_law_2154 (by decide) (show R32 ((f_deliveredOrder (sx X i 1) v).2 0 0) from ⟨by omega, by omega⟩) (fun q => q z) ?_
    refine Ev.aload_n (i := 3) dL_law_2157 rfl rfl ?_
    refine Ei.const dL_law_2158 ?_
    refine Ev.lald L1.2.2.1.1 (vin0 L1.2.2.1.2) dL_law_2159 ?_
    rw [clamp0, show (Hm τ m0 (f_deliveredOrder (sx X i 1) v).2).lv oL 0 = (i32 (f_deliveredOrder (sx X i 1) v).1).toInt64 from hz z]
    refine Ev.iload dL_law_2160 rfl ?_
    refine Ev.i2l dL_law_2162 rfl ?_
    refine Ev.lcmp dL_law_2163 ?_
    rw [lcmp_s]
    refine Ei.if_eq_t (tgt := 2169) dL_law_2164 (by decide) ⟨by decide, by decide⟩ rfl ?_
    refine Ev.goto (tgt := 2228) dL_law_2169 (by decide) ?_
    exact Ev.fgt (ls' := lsL X (A 13 0) m0 oL oD i) ⟨rfl, ⟨rfl, ⟨rfl, ⟨rfl, ⟨rfl, ⟨rfl, trivial⟩⟩⟩⟩⟩⟩ fin
  · refine Ei.if_ne_t (tgt := 2169) dL_law_2154 (by decide) (show R32 ((f_deliveredOrder (sx X i 1) v).2 0 0) from ⟨by omega, by omega⟩) z ?_
    refine Ev.goto (tgt := 2228) dL_law_2169 (by decide) ?_
    exact Ev.fgt (ls' := lsL X (A 13 0) m0 oL oD i) ⟨rfl, ⟨rfl, ⟨rfl, ⟨rfl, ⟨rfl, ⟨rfl, trivial⟩⟩⟩⟩⟩⟩ fin
theorem c_deliveredUnits {X : Cx} {σ : Hp} {A : Nat → Int → Nat} {c : Cs} {B : Int → Nat} {m0 oL oD : Nat} {v : Vw} {T E i : Int} (hN : KN X) (hL : LW X σ A c B m0 oL oD v) (hV : INV c v) (hI : IM v T E) (hT : T + 31 ≤ 20000) (hE : E + 102300 ≤ 1000000000) (hi : 0 ≤ i) (hi3 : i + 3 < X.sL) (hs : X.sL ≤ 2048) :
    ∃ τ A' B', (LW X τ A' (g_X10_deliveredUnits (sx X i 1) c).2 B' m0 oL oD (f_deliveredUnits (sx X i 1) v).2 ∧ INV (g_X10_deliveredUnits (sx X i 1) c).2 (f_deliveredUnits (sx X i 1) v).2 ∧ IM (f_deliveredUnits (sx X i 1) v).2 (T + 31) (E + 102300) ∧ A' 13 0 = A 13 0) ∧ ∀ (o : Rs) (τf : Hp), Ev X m_L_law 30 2228 (lsL X (A 13 0) m0 oL oD i) [] τ o τf → Ev X m_L_law 30 2172 (lsL X (A 13 0) m0 oL oD i) [] σ o τf := by
  have hT0 := hI.1
  have hI2 : IM v (T + 31) E := hI.mono (by omega) (Int.le_refl _) (by omega) (by omega)
  obtain ⟨τ, A2, B2, hC, L1, hV2, e13, hz⟩ := w_deliveredUnits hN hL hV hI2 (sx_r X i 1)
  have I3 : IM (f_deliveredUnits (sx X i 1) v).2 (T + 31) (E + 102300) := (i_deliveredUnits hI2 (sx_r X i 1)).mono (Int.le_refl _) (by omega) (by omega) (by omega)
  have t0 : 0 ≤ (f_deliveredUnits (sx X i 1) v).2 0 0 ∧ (f_deliveredUnits (sx X i 1) v).2 0 0 ≤ 4 := I3.2 0 0
  refine ⟨Hm τ m0 (f_deliveredUnits (sx X i 1) v).2, A2, B2, ⟨L1.mod _, hV2, I3, e13⟩, fun o τf fin => ?_⟩
  refine Ev.aload_n (i := 1) dL_law_2172 rfl rfl ?_
  refine Ev.aload_n (i := 0) dL_law_2173 rfl rfl ?_
  refine Ev.iload dL_law_2174 rfl ?_
  refine Ei.const dL_law_2176 ?_
  refine Ei.add dL_law_2177 ?_
  refine Ev.rdS (by omega) (by omega) hs dL_law_2178 ?_
  refine Ev.aload_n (i := 3) dL_law_2179 rfl rfl ?_
  refine Ev.callSH (As := [_, _, _]) (v := some (.int (i32 ((f_deliveredUnits (sx X i 1) v).2 0 0)))) k_L_deliveredUnits (tb6 (i := 197) rfl) ki_L_deliveredUnits dL_law_2180 rfl rfl (by decide) (by decide) hC ?_
  refine Ev.istore dL_law_2183 (by decide) ?_
  refine Ev.hp L1.2.1.2 ?_
  refine Ev.aload_n (i := 2) dL_law_2185 rfl rfl ?_
  refine Ev.aload_n (i := 0) dL_law_2186 rfl rfl ?_
  refine Ev.iload dL_law_2187 rfl ?_
  refine Ei.const dL_law_2189 ?_
  refine Ei.add dL_law_2190 ?_
  refine Ev.rdS (by omega) (by omega) hs dL_law_2191 ?_
  refine Em.cv1 (As := [_]) L1.2.1.1 k_X11_deliveredUnits (tb8 (i := 152) rfl) ki_X11_deliveredUnits kv_X11_deliveredUnits dL_law_2192 rfl rfl (by decide) (by decide) (s_X11_deliveredUnits L1.2.1.1 hI2 (sx_r X i 1)) ?_
  refine Ev.istore dL_law_2195 (by decide) ?_
  refine Ev.aload_n (i := 2) dL_law_2197 rfl rfl ?_
  refine Em.cv1 (As := []) L1.2.1.1 k_X11_thrown (tb7 (i := 114) rfl) ki_X11_thrown kv_X11_thrown dL_law_2198 rfl rfl (by decide) (by decide) (s_X11_thrown L1.2.1.1 I3) ?_
  refine Ev.iload dL_law_2201 rfl ?_
  refine Ei.icmp_eq_t (tgt := 2208) dL_law_2203 (by decide) (show R32 ((f_deliveredUnits (sx X i 1) v).2 0 0) from ⟨by omega, by omega⟩) (show R32 ((f_deliveredUnits (sx X i 1) v).2 0 0) from ⟨by omega, by omega⟩) rfl ?_
  refine Ev.iload dL_law_2208 rfl ?_
  by_cases z : (f_deliveredUnits (sx X i 1) v).2 0 0 = 0
  · refine Ei.if_ne_f (tgt := 2225) dL_law_2210 (by decide) (show R32 ((f_deliveredUnits (sx X i 1) v).2 0 0) from ⟨by omega, by omega⟩) (fun q => q z) ?_
    refine Ev.aload_n (i := 3) dL_law_2213 rfl rfl ?_
    refine Ei.const dL_law_2214 ?_
    refine Ev.lald L1.2.2.1.1 (vin0 L1.2.2.1.2) dL_law_2215 ?_
    rw [clamp0, show (Hm τ m0 (f_deliveredUnits (sx X i 1) v).2).lv oL 0 = (i32 (f_deliveredUnits (sx X i 1) v).1).toInt64 from hz z]
    refine Ev.iload dL_law_2216 rfl ?_
    refine Ev.i2l dL_law_2218 rfl ?_
    refine Ev.lcmp dL_law_2219 ?_
    rw [lcmp_s]
    refine Ei.if_eq_t (tgt := 2225) dL_law_2220 (by decide) ⟨by decide, by decide⟩ rfl ?_
    refine Ev.goto (tgt := 2228) dL_law_2225 (by decide) ?_
    exact Ev.fgt (ls' := lsL X (A 13 0) m0 oL oD i) ⟨rfl, ⟨rfl, ⟨rfl, ⟨rfl, ⟨rfl, ⟨rfl, trivial⟩⟩⟩⟩⟩⟩ fin
  · refine Ei.if_ne_t (tgt := 2225) dL_law_2210 (by decide) (show R32 ((f_deliveredUnits (sx X i 1) v).2 0 0) from ⟨by omega, by omega⟩) z ?_
    refine Ev.goto (tgt := 2228) dL_law_2225 (by decide) ?_
    exact Ev.fgt (ls' := lsL X (A 13 0) m0 oL oD i) ⟨rfl, ⟨rfl, ⟨rfl, ⟨rfl, ⟨rfl, ⟨rfl, trivial⟩⟩⟩⟩⟩⟩ fin
