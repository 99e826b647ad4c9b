/-! the law: reading the script -/
section SCRIPT
variable {X : Cx} {M : Mt} {d pc : Nat} {ls : List (Option Value)} {rest : List Value} {σ τ : Hp} {o : Rs}
theorem Ev.sld {i : Int32} (hin : vp_in i X.sL) (d9 : decode M.cc pc = .ok (.iaload, 1)) (k : Ev X M d (pc + 1) ls (.int (X.xs i.toNatClampNeg) :: rest) σ o τ) : Ev X M d pc ls (.int i :: va_rf (some X.sb) :: rest) σ o τ :=
  Ev.pure (fun p l e R s m args below meth c H locs cells slots Q la hF _ _ _ _ _ hH hl kk => by
    obtain ⟨hx, hb, -, -, -, -, -, -, -, hK, hW, -, -⟩ := hF
    obtain ⟨-, -, -, -, -, -, -, hX, hs, -, -⟩ := hK
    obtain ⟨scr, h1, h2, h3, h4, h5⟩ := va_X.moved hW.alike hX
    have hlt : i.toNatClampNeg < X.sL := Nat.not_le.mp fun q => hin (Or.inr q)
    exact W.iald (v := .int (X.xs i.toNatClampNeg)) hx hb (by rw [hH.2.2.2.2 _ hs]; exact h1) h2 h3 (by rw [h4]; exact hin) (h5 _ hlt) rfl rfl d9 (kk _ hl)) k
theorem Ev.slen (d9 : decode M.cc pc = .ok (.arraylength, 1)) (k : Ev X M d (pc + 1) ls (.int (Int32.ofNat X.sL) :: rest) σ o τ) : Ev X M d pc ls (va_rf (some X.sb) :: rest) σ o τ :=
  Ev.pure (fun p l e R s m args below meth c H locs cells slots Q la hF _ _ _ _ _ hH hl kk => by
    obtain ⟨hx, hb, -, -, -, -, -, -, -, hK, hW, -, -⟩ := hF
    obtain ⟨-, -, -, -, -, -, -, hX, hs, -, -⟩ := hK
    obtain ⟨scr, h1, h2, h3, h4, h5⟩ := va_X.moved hW.alike hX
    exact W.alen (n := Int32.ofNat X.sL) hx hb (by rw [hH.2.2.2.2 _ hs]; exact h1) h2 (by rw [h4] <;> rfl) rfl rfl d9 (kk _ hl)) k
end SCRIPT
/-! the law: its cases (written by wip/whole/mk81.py) -/
def m_L_law : Mt := (yL_law, cL_law, 8, some .boolean, [])
def lsL (X : Cx) (h m0 oL oD : Nat) (i : Int) : List (Option Value) := [some (va_rf (some X.sb)), some (va_rf (some h)), some (va_rf (some m0)), some (va_rf (some oL)), some (va_rf (some oD)), some (.int (i32 i)), none, none]
/-- the script's number at this place -/
def sx (X : Cx) (i j : Int) : Int := (X.xs (i32 (i + j)).toNatClampNeg).toInt
def sc (X : Cx) (i j : Int) : Int := ((X.xs (i32 (i + j)).toNatClampNeg).toUInt32 % 65536).toInt32.toInt
theorem R32_toInt (x : Int32) : R32 x.toInt := ⟨x.le_toInt, x.toInt_lt⟩
theorem sx_r (X : Cx) (i j : Int) : R32 (sx X i j) := R32_toInt _
theorem sc_r (X : Cx) (i j : Int) : R32 (sc X i j) := R32_toInt _
section LAWC
variable {X : Cx} {M : Mt} {d pc : Nat} {ls : List (Option Value)} {rest : List Value} {σ τ : Hp} {o : Rs}
theorem Ev.hp {σ1 : Hp} (e : σ1 = σ) (k : Ev X M d pc ls rest σ1 o τ) : Ev X M d pc ls rest σ o τ := e ▸ k
theorem Ev.rdS {i j : Int} (h0 : 0 ≤ i + j) (h1 : i + j < X.sL) (h2 : X.sL ≤ 2048) (d9 : decode M.cc pc = .ok (.iaload, 1)) (k : Ev X M d (pc + 1) ls (.int (i32 (sx X i j)) :: rest) σ o τ) : Ev X M d pc ls (.int (i32 (i + j)) :: va_rf (some X.sb) :: rest) σ o τ := by
  refine Ev.sld (i32_vin h0 h1 (by omega)) d9 ?_
  unfold sx at k
  rw [i32_asI] at k
  exact k
theorem Ev.rdC {i j : Int} (d9 : decode M.cc pc = .ok (.i2c, 1)) (k : Ev X M d (pc + 1) ls (.int (i32 (sc X i j)) :: rest) σ o τ) : Ev X M d pc ls (.int (i32 (sx X i j)) :: rest) σ o τ := by
  refine Ev.i2c d9 rfl ?_
  unfold sc at k
  rw [i32_asI] at k
  show Ev X M d (pc + 1) ls (.int (((i32 (sx X i j)).toUInt32 % 65536).toInt32) :: rest) σ o τ
  unfold sx
  rw [i32_asI]
  exact k
theorem lcmp_s (x : Int64) : lg_cmp x x = i32 0 := by
  unfold lg_cmp
  simp
  try rfl
end LAWC
theorem c_addRecipe {X : Cx} {σ : Hp} {A : Nat → Int → Nat} {c : Cs} {B : Int → Nat} {m0 oL oD : Nat} {v : Vw} {T E i : Int} (hN : KN X) (hL : LW X σ A c B m0 oL oD v) (hV : INV c v) (hI : IM v T E) (hT : T + 31 ≤ 20000) (hE : E + 102300 ≤ 1000000000) (hi : 0 ≤ i) (hi3 : i + 3 < X.sL) (hs : X.sL ≤ 2048) :
    ∃ τ A' B', (LW X τ A' (g_X10_addRecipe (sx X i 1) (sx X i 2) (sx X i 3) c).2 B' m0 oL oD (f_addRecipe (sx X i 1) (sx X i 2) (sx X i 3) v).2 ∧ INV (g_X10_addRecipe (sx X i 1) (sx X i 2) (sx X i 3) c).2 (f_addRecipe (sx X i 1) (sx X i 2) (sx X i 3) v).2 ∧ IM (f_addRecipe (sx X i 1) (sx X i 2) (sx X i 3) v).2 (T + 31) (E + 102300) ∧ A' 13 0 = A 13 0) ∧ ∀ (o : Rs) (τf : Hp), Ev X m_L_law 30 2228 (lsL X (A 13 0) m0 oL oD i) [] τ o τf → Ev X m_L_law 30 212 (lsL X (A 13 0) m0 oL oD i) [] σ o τf := by
  have hT0 := hI.1
  have hI2 : IM v (T + 31) E := hI.mono (by omega) (Int.le_refl _) (by omega) (by omega)
  obtain ⟨τ, A2, B2, hC, L1, hV2, e13, hz⟩ := w_addRecipe hN hL hV hI2 (sx_r X i 1) (sx_r X i 2) (sx_r X i 3)
  have I3 : IM (f_addRecipe (sx X i 1) (sx X i 2) (sx X i 3) v).2 (T + 31) (E + 102300) := (i_addRecipe hI2 (sx_r X i 1) (sx_r X i 2) (sx_r X i 3)).mono (Int.le_refl _) (by omega) (by omega) (by omega)
  have t0 : 0 ≤ (f_addRecipe (sx X i 1) (sx X i 2) (sx X i 3) v).2 0 0 ∧ (f_addRecipe (sx X i 1) (sx X i 2) (sx X i 3) v).2 0 0 ≤ 4 := I3.2 0 0
  refine ⟨Hm τ m0 (f_addRecipe (sx X i 1) (sx X i 2) (sx X i 3) v).2, A2, B2, ⟨L1.mod _, hV2, I3, e13⟩, fun o τf fin => ?_⟩
  refine Ev.aload_n (i := 1) dL_law_212 rfl rfl ?_
  refine Ev.aload_n (i := 0) dL_law_213 rfl rfl ?_
  refine Ev.iload dL_law_214 rfl ?_
  refine Ei.const dL_law_216 ?_
  refine Ei.add dL_law_217 ?_
  refine Ev.rdS (by omega) (by omega) hs dL_law_218 ?_
  refine Ev.aload_n (i := 0) dL_law_219 rfl rfl ?_
  refine Ev.iload dL_law_220 rfl ?_
  refine Ei.const dL_law_222 ?_
  refine Ei.add dL_law_223 ?_
  refine Ev.rdS (by omega) (by omega) hs dL_law_224 ?_
  refine Ev.aload_n (i := 0) dL_law_225 rfl rfl ?_
  refine Ev.iload dL_law_226 rfl ?_
  refine Ei.const dL_law_228 ?_
  refine Ei.add dL_law_229 ?_
  refine Ev.rdS (by omega) (by omega) hs dL_law_230 ?_
  refine Ev.aload_n (i := 3) dL_law_231 rfl rfl ?_
  refine Ev.callSH (As := [_, _, _, _, _]) (v := some (.int (i32 ((f_addRecipe (sx X i 1) (sx X i 2) (sx X i 3) v).2 0 0)))) k_L_addRecipe (tb2 (i := 8) rfl) ki_L_addRecipe dL_law_232 rfl rfl (by decide) (by decide) hC ?_
  refine Ev.istore dL_law_235 (by decide) ?_
  refine Ev.hp L1.2.1.2 ?_
  refine Ev.aload_n (i := 2) dL_law_237 rfl rfl ?_
  refine Ev.aload_n (i := 0) dL_law_238 rfl rfl ?_
  refine Ev.iload dL_law_239 rfl ?_
  refine Ei.const dL_law_241 ?_
  refine Ei.add dL_law_242 ?_
  refine Ev.rdS (by omega) (by omega) hs dL_law_243 ?_
  refine Ev.aload_n (i := 0) dL_law_244 rfl rfl ?_
  refine Ev.iload dL_law_245 rfl ?_
  refine Ei.const dL_law_247 ?_
  refine Ei.add dL_law_248 ?_
  refine Ev.rdS (by omega) (by omega) hs dL_law_249 ?_
  refine Ev.aload_n (i := 0) dL_law_250 rfl rfl ?_
  refine Ev.iload dL_law_251 rfl ?_
  refine Ei.const dL_law_253 ?_
  refine Ei.add dL_law_254 ?_
  refine Ev.rdS (by omega) (by omega) hs dL_law_255 ?_
  refine Em.cv1 (As := [_, _, _]) L1.2.1.1 k_X11_addRecipe (tb7 (i := 118) rfl) ki_X11_addRecipe kv_X11_addRecipe dL_law_256 rfl rfl (by decide) (by decide) (s_X11_addRecipe L1.2.1.1 hI2 (sx_r X i 1) (sx_r X i 2) (sx_r X i 3)) ?_
  refine Ev.istore dL_law_259 (by decide) ?_
  refine Ev.aload_n (i := 2) dL_law_261 rfl rfl ?_
  refine Em.cv1 (As := []) L1.2.1.1 k_X11_thrown (tb7 (i := 114) rfl) ki_X11_thrown kv_X11_thrown dL_law_262 rfl rfl (by decide) (by decide) (s_X11_thrown L1.2.1.1 I3) ?_
  refine Ev.iload dL_law_265 rfl ?_
  refine Ei.icmp_eq_t (tgt := 272) dL_law_267 (by decide) (show R32 ((f_addRecipe (sx X i 1) (sx X i 2) (sx X i 3) v).2 0 0) from ⟨by omega, by omega⟩) (show R32 ((f_addRecipe (sx X i 1) (sx X i 2) (sx X i 3) v).2 0 0) from ⟨by omega, by omega⟩) rfl ?_
  refine Ev.iload dL_law_272 rfl ?_
  by_cases z : (f_addRecipe (sx X i 1) (sx X i 2) (sx X i 3) v).2 0 0 = 0
  · refine Ei.if_ne_f (tgt := 289) dL_law_274 (by decide) (show R32 ((f_addRecipe (sx X i 1) (sx X i 2) (sx X i 3) v).2 0 0) from ⟨by omega, by omega⟩) (fun q => q z) ?_
    refine Ev.aload_n (i := 3) dL_law_277 rfl rfl ?_
    refine Ei.const dL_law_278 ?_
    refine Ev.lald L1.2.2.1.1 (vin0 L1.2.2.1.2) dL_law_279 ?_
    rw [clamp0, show (Hm τ m0 (f_addRecipe (sx X i 1) (sx X i 2) (sx X i 3) v).2).lv oL 0 = (i32 (f_addRecipe (sx X i 1) (sx X i 2) (sx X i 3) v).1).toInt64 from hz z]
    refine Ev.iload dL_law_280 rfl ?_
    refine Ev.i2l dL_law_282 rfl ?_
    refine Ev.lcmp dL_law_283 ?_
    rw [lcmp_s]
    refine Ei.if_eq_t (tgt := 289) dL_law_284 (by decide) ⟨by decide, by decide⟩ rfl ?_
    refine Ev.goto (tgt := 2228) dL_law_289 (by decide) ?_
    exact Ev.fgt (ls' := lsL X (A 13 0) m0 oL oD i) ⟨rfl, ⟨rfl, ⟨rfl, ⟨rfl, ⟨rfl, ⟨rfl, trivial⟩⟩⟩⟩⟩⟩ fin
  · refine Ei.if_ne_t (tgt := 289) dL_law_274 (by decide) (show R32 ((f_addRecipe (sx X i 1) (sx X i 2) (sx X i 3) v).2 0 0) from ⟨by omega, by omega⟩) z ?_
    refine Ev.goto (tgt := 2228) dL_law_289 (by decide) ?_
    exact Ev.fgt (ls' := lsL X (A 13 0) m0 oL oD i) ⟨rfl, ⟨rfl, ⟨rfl, ⟨rfl, ⟨rfl, ⟨rfl, trivial⟩⟩⟩⟩⟩⟩ fin
theorem c_addVessel {X : Cx} {σ : Hp} {A : Nat → Int → Nat} {c : Cs} {B : Int → Nat} {m0 oL oD : Nat} {v : Vw} {T E i : Int} (hN : KN X) (hL : LW X σ A c B m0 oL oD v) (hV : INV c v) (hI : IM v T E) (hT : T + 31 ≤ 20000) (hE : E + 102300 ≤ 1000000000) (hi : 0 ≤ i) (hi3 : i + 3 < X.sL) (hs : X.sL ≤ 2048) :
    ∃ τ A' B', (LW X τ A' (g_X10_addVessel (sc X i 1) c).2 B' m0 oL oD (f_addVessel (sc X i 1) v).2 ∧ INV (g_X10_addVessel (sc X i 1) c).2 (f_addVessel (sc X i 1) v).2 ∧ IM (f_addVessel (sc X i 1) v).2 (T + 31) (E + 102300) ∧ A' 13 0 = A 13 0) ∧ ∀ (o : Rs) (τf : Hp), Ev X m_L_law 30 2228 (lsL X (A 13 0) m0 oL oD i) [] τ o τf → Ev X m_L_law 30 292 (lsL X (A 13 0) m0 oL oD i) [] σ o τf := by
  have hT0 := hI.1
  have hI2 : IM v (T + 31) E := hI.mono (by omega) (Int.le_refl _) (by omega) (by omega)
  obtain ⟨τ, A2, B2, hC, L1, hV2, e13, hz⟩ := w_addVessel hN hL hV hI2 (sc_r X i 1)
  have I3 : IM (f_addVessel (sc X i 1) v).2 (T + 31) (E + 102300) := (i_addVessel hI2 (sc_r X i 1)).mono (Int.le_refl _) (by omega) (by omega) (by omega)
  have t0 : 0 ≤ (f_addVessel (sc X i 1) v).2 0 0 ∧ (f_addVessel (sc X i 1) v).2 0 0 ≤ 4 := I3.2 0 0
  refine ⟨Hm τ m0 (f_addVessel (sc X i 1) v).2, A2, B2, ⟨L1.mod _, hV2, I3, e13⟩, fun o τf fin => ?_⟩
  refine Ev.aload_n (i := 1) dL_law_292 rfl rfl ?_
  refine Ev.aload_n (i := 0) dL_law_293 rfl rfl ?_
  refine Ev.iload dL_law_294 rfl ?_
  refine Ei.const dL_law_296 ?_
  refine Ei.add dL_law_297 ?_
  refine Ev.rdS (by omega) (by omega) hs dL_law_298 ?_
  refine Ev.rdC dL_law_299 ?_
  refine Ev.aload_n (i := 3) dL_law_300 rfl rfl ?_
  refine Ev.callSH (As := [_, _, _]) (v := some (.int (i32 ((f_addVessel (sc X i 1) v).2 0 0)))) k_L_addVessel (tb2 (i := 158) rfl) ki_L_addVessel dL_law_301 rfl rfl (by decide) (by decide) hC ?_
  refine Ev.istore dL_law_304 (by decide) ?_
  refine Ev.hp L1.2.1.2 ?_
  refine Ev.aload_n (i := 2) dL_law_306 rfl rfl ?_
  refine Ev.aload_n (i := 0) dL_law_307 rfl rfl ?_
  refine Ev.iload dL_law_308 rfl ?_
  refine Ei.const dL_law_310 ?_
  refine Ei.add dL_law_311 ?_
  refine Ev.rdS (by omega) (by omega) hs dL_law_312 ?_
  refine Ev.rdC dL_law_313 ?_
  refine Em.cv1 (As := [_]) L1.2.1.1 k_X11_addVessel (tb7 (i := 129) rfl) ki_X11_addVessel kv_X11_addVessel dL_law_314 rfl rfl (by decide) (by decide) (s_X11_addVessel L1.2.1.1 hI2 (sc_r X i 1)) ?_
  refine Ev.istore dL_law_317 (by decide) ?_
  refine Ev.aload_n (i := 2) dL_law_319 rfl rfl ?_
  refine Em.cv1 (As := []) L1.2.1.1 k_X11_thrown (tb7 (i := 114) rfl) ki_X11_thrown kv_X11_thrown dL_law_320 rfl rfl (by decide) (by decide) (s_X11_thrown L1.2.1.1 I3) ?_
  refine Ev.iload dL_law_323 rfl ?_
  refine Ei.icmp_eq_t (tgt := 330) dL_law_325 (by decide) (show R32 ((f_addVessel (sc X i 1) v).2 0 0) from ⟨by omega, by omega⟩) (show R32 ((f_addVessel (sc X i 1) v).2 0 0) from ⟨by omega, by omega⟩) rfl ?_
  refine Ev.iload dL_law_330 rfl ?_
  by_cases z : (f_addVessel (sc X i 1) v).2 0 0 = 0
  · refine Ei.if_ne_f (tgt := 347) dL_law_332 (by decide) (show R32 ((f_addVessel (sc X i 1) v).2 0 0) from ⟨by omega, by omega⟩) (fun q => q z) ?_
    refine Ev.aload_n (i := 3) dL_law_335 rfl rfl ?_
    refine Ei.const dL_law_336 ?_
    refine Ev.lald L1.2.2.1.1 (vin0 L1.2.2.1.2) dL_law_337 ?_
    rw [clamp0, show (Hm τ m0 (f_addVessel (sc X i 1) v).2).lv oL 0 = (i32 (f_addVessel (sc X i 1) v).1).toInt64 from hz z]
    refine Ev.iload dL_law_338 rfl ?_
    refine Ev.i2l dL_law_340 rfl ?_
    refine Ev.lcmp dL_law_341 ?_
    rw [lcmp_s]
    refine Ei.if_eq_t (tgt := 347) dL_law_342 (by decide) ⟨by decide, by decide⟩ rfl ?_
    refine Ev.goto (tgt := 2228) dL_law_347 (by decide) ?_
    exact Ev.fgt (ls' := lsL X (A 13 0) m0 oL oD i) ⟨rfl, ⟨rfl, ⟨rfl, ⟨rfl, ⟨rfl, ⟨rfl, trivial⟩⟩⟩⟩⟩⟩ fin
  · refine Ei.if_ne_t (tgt := 347) dL_law_332 (by decide) (show R32 ((f_addVessel (sc X i 1) v).2 0 0) from ⟨by omega, by omega⟩) z ?_
    refine Ev.goto (tgt := 2228) dL_law_347 (by decide) ?_
    exact Ev.fgt (ls' := lsL X (A 13 0) m0 oL oD i) ⟨rfl, ⟨rfl, ⟨rfl, ⟨rfl, ⟨rfl, ⟨rfl, trivial⟩⟩⟩⟩⟩⟩ fin
theorem c_setCrews {X : Cx} {σ : Hp} {A : Nat → Int → Nat} {c : Cs} {B : Int → Nat} {m0 oL oD : Nat} {v : Vw} {T E i : Int} (hN : KN X) (hL : LW X σ A c B m0 oL oD v) (hV : INV c v) (hI : IM v T E) (hT : T + 31 ≤ 20000) (hE : E + 102300 ≤ 1000000000) (hi : 0 ≤ i) (hi3 : i + 3 < X.sL) (hs : X.sL ≤ 2048) :
    ∃ τ A' B', (LW X τ A' (g_X10_setCrews (sx X i 1) c).2 B' m0 oL oD (f_setCrews (sx X i 1) v).2 ∧ INV (g_X10_setCrews (sx X i 1) c).2 (f_setCrews (sx X i 1) v).2 ∧ IM (f_setCrews (sx X i 1) v).2 (T + 31) (E + 102300) ∧ A' 13 0 = A 13 0) ∧ ∀ (o : Rs) (τf : Hp), Ev X m_L_law 30 2228 (lsL X (A 13 0) m0 oL oD i) [] τ o τf → Ev X m_L_law 30 350 (lsL X (A 13 0) m0 oL oD i) [] σ o τf := by
  have hT0 := hI.1
  have hI2 : IM v (T + 31) E := hI.mono (by omega) (Int.le_refl _) (by omega) (by omega)
  obtain ⟨τ, A2, B2, hC, L1, hV2, e13, hz⟩ := w_setCrews hN hL hV hI2 (sx_r X i 1)
  have I3 : IM (f_setCrews (sx X i 1) v).2 (T + 31) (E + 102300) := (i_setCrews hI2 (sx_r X i 1)).mono (Int.le_refl _) (by omega) (by omega) (by omega)
  have t0 : 0 ≤ (f_setCrews (sx X i 1) v).2 0 0 ∧ (f_setCrews (sx X i 1) v).2 0 0 ≤ 4 := I3.2 0 0
  refine ⟨Hm τ m0 (f_setCrews (sx X i 1) v).2, A2, B2, ⟨L1.mod _, hV2, I3, e13⟩, fun o τf fin => ?_⟩
  refine Ev.aload_n (i := 1) dL_law_350 rfl rfl ?_
  refine Ev.aload_n (i := 0) dL_law_351 rfl rfl ?_
  refine Ev.iload dL_law_352 rfl ?_
  refine Ei.const dL_law_354 ?_
  refine Ei.add dL_law_355 ?_
  refine Ev.rdS (by omega) (by omega) hs dL_law_356 ?_
  refine Ev.aload_n (i := 3) dL_law_357 rfl rfl ?_
  refine Ev.callSH (As := [_, _, _]) (v := some (.int (i32 ((f_setCrews (sx X i 1) v).2 0 0)))) k_L_setCrews (tb2 (i := 217) rfl) ki_L_setCrews dL_law_358 rfl rfl (by decide) (by decide) hC ?_
  refine Ev.istore dL_law_361 (by decide) ?_
  refine Ev.hp L1.2.1.2 ?_
  refine Ev.aload_n (i := 2) dL_law_363 rfl rfl ?_
  refine Ev.aload_n (i := 0) dL_law_364 rfl rfl ?_
  refine Ev.iload dL_law_365 rfl ?_
  refine Ei.const dL_law_367 ?_
  refine Ei.add dL_law_368 ?_
  refine Ev.rdS (by omega) (by omega) hs dL_law_369 ?_
  refine Em.cv1 (As := [_]) L1.2.1.1 k_X11_setCrews (tb7 (i := 133) rfl) ki_X11_setCrews kv_X11_setCrews dL_law_370 rfl rfl (by decide) (by decide) (s_X11_setCrews L1.2.1.1 hI2 (sx_r X i 1)) ?_
  refine Ev.istore dL_law_373 (by decide) ?_
  refine Ev.aload_n (i := 2) dL_law_375 rfl rfl ?_
  refine Em.cv1 (As := []) L1.2.1.1 k_X11_thrown (tb7 (i := 114) rfl) ki_X11_thrown kv_X11_thrown dL_law_376 rfl rfl (by decide) (by decide) (s_X11_thrown L1.2.1.1 I3) ?_
  refine Ev.iload dL_law_379 rfl ?_
  refine Ei.icmp_eq_t (tgt := 386) dL_law_381 (by decide) (show R32 ((f_setCrews (sx X i 1) v).2 0 0) from ⟨by omega, by omega⟩) (show R32 ((f_setCrews (sx X i 1) v).2 0 0) from ⟨by omega, by omega⟩) rfl ?_
  refine Ev.iload dL_law_386 rfl ?_
  by_cases z : (f_setCrews (sx X i 1) v).2 0 0 = 0
  · refine Ei.if_ne_f (tgt := 403) dL_law_388 (by decide) (show R32 ((f_setCrews (sx X i 1) v).2 0 0) from ⟨by omega, by omega⟩) (fun q => q z) ?_
    refine Ev.aload_n (i := 3) dL_law_391 rfl rfl ?_
    refine Ei.const dL_law_392 ?_
    refine Ev.lald L1.2.2.1.1 (vin0 L1.2.2.1.2) dL_law_393 ?_
    rw [clamp0, show (Hm τ m0 (f_setCrews (sx X i 1) v).2).lv oL 0 = (i32 (f_setCrews (sx X i 1) v).1).toInt64 from hz z]
    refine Ev.iload dL_law_394 rfl ?_
    refine Ev.i2l dL_law_396 rfl ?_
    refine Ev.lcmp dL_law_397 ?_
    rw [lcmp_s]
    refine Ei.if_eq_t (tgt := 403) dL_law_398 (by decide) ⟨by decide, by decide⟩ rfl ?_
    refine Ev.goto (tgt := 2228) dL_law_403 (by decide) ?_
    exact Ev.fgt (ls' := lsL X (A 13 0) m0 oL oD i) ⟨rfl, ⟨rfl, ⟨rfl, ⟨rfl, ⟨rfl, ⟨rfl, trivial⟩⟩⟩⟩⟩⟩ fin
  · refine Ei.if_ne_t (tgt := 403) dL_law_388 (by decide) (show R32 ((f_setCrews (sx X i 1) v).2 0 0) from ⟨by omega, by omega⟩) z ?_
    refine Ev.goto (tgt := 2228) dL_law_403 (by decide) ?_
    exact Ev.fgt (ls' := lsL X (A 13 0) m0 oL oD i) ⟨rfl, ⟨rfl, ⟨rfl, ⟨rfl, ⟨rfl, ⟨rfl, trivial⟩⟩⟩⟩⟩⟩ fin
theorem c_addPacks {X : Cx} {σ : Hp} {A : Nat → Int → Nat} {c : Cs} {B : Int → Nat} {m0 oL oD : Nat} {v : Vw} {T E i : Int} (hN : KN X) (hL : LW X σ A c B m0 oL oD v) (hV : INV c v) (hI : IM v T E) (hT : T + 31 ≤ 20000) (hE : E + 102300 ≤ 1000000000) (hi : 0 ≤ i) (hi3 : i + 3 < X.sL) (hs : X.sL ≤ 2048) :
    ∃ τ A' B', (LW X τ A' (g_X10_addPacks (sx X i 1) (sx X i 2) c).2 B' m0 oL oD (f_addPacks (sx X i 1) (sx X i 2) v).2 ∧ INV (g_X10_addPacks (sx X i 1) (sx X i 2) c).2 (f_addPacks (sx X i 1) (sx X i 2) v).2 ∧ IM (f_addPacks (sx X i 1) (sx X i 2) v).2 (T + 31) (E + 102300) ∧ A' 13 0 = A 13 0) ∧ ∀ (o : Rs) (τf : Hp), Ev X m_L_law 30 2228 (lsL X (A 13 0) m0 oL oD i) [] τ o τf → Ev X m_L_law 30 406 (lsL X (A 13 0) m0 oL oD i) [] σ o τf := by
  have hT0 := hI.1
  have hI2 : IM v (T + 31) E := hI.mono (by omega) (Int.le_refl _) (by omega) (by omega)
  obtain ⟨τ, A2, B2, hC, L1, hV2, e13, hz⟩ := w_addPacks hN hL hV hI2 (sx_r X i 1) (sx_r X i 2)
  have I3 : IM (f_addPacks (sx X i 1) (sx X i 2) v).2 (T + 31) (E + 102300) := (i_addPacks hI2 (sx_r X i 1) (sx_r X i 2) (fun _ _ => by have u21 : 0 ≤ v 21 (sx X i 1) ∧ v 21 (sx X i 1) ≤ 9 * T := hI.2 21 (sx X i 1); omega)).mono (Int.le_refl _) (by omega) (by omega) (by omega)
  have t0 : 0 ≤ (f_addPacks (sx X i 1) (sx X i 2) v).2 0 0 ∧ (f_addPacks (sx X i 1) (sx X i 2) v).2 0 0 ≤ 4 := I3.2 0 0
  refine ⟨Hm τ m0 (f_addPacks (sx X i 1) (sx X i 2) v).2, A2, B2, ⟨L1.mod _, hV2, I3, e13⟩, fun o τf fin => ?_⟩
  refine Ev.aload_n (i := 1) dL_law_406 rfl rfl ?_
  refine Ev.aload_n (i := 0) dL_law_407 rfl rfl ?_
  refine Ev.iload dL_law_408 rfl ?_
  refine Ei.const dL_law_410 ?_
  refine Ei.add dL_law_411 ?_
  refine Ev.rdS (by omega) (by omega) hs dL_law_412 ?_
  refine Ev.aload_n (i := 0) dL_law_413 rfl rfl ?_
  refine Ev.iload dL_law_414 rfl ?_
  refine Ei.const dL_law_416 ?_
  refine Ei.add dL_law_417 ?_
  refine Ev.rdS (by omega) (by omega) hs dL_law_418 ?_
  refine Ev.aload_n (i := 3) dL_law_419 rfl rfl ?_
  refine Ev.callSH (As := [_, _, _, _]) (v := some (.int (i32 ((f_addPacks (sx X i 1) (sx X i 2) v).2 0 0)))) k_L_addPacks (tb2 (i := 225) rfl) ki_L_addPacks dL_law_420 rfl rfl (by decide) (by decide) hC ?_
  refine Ev.istore dL_law_423 (by decide) ?_
  refine Ev.hp L1.2.1.2 ?_
  refine Ev.aload_n (i := 2) dL_law_425 rfl rfl ?_
  refine Ev.aload_n (i := 0) dL_law_426 rfl rfl ?_
  refine Ev.iload dL_law_427 rfl ?_
  refine Ei.const dL_law_429 ?_
  refine Ei.add dL_law_430 ?_
  refine Ev.rdS (by omega) (by omega) hs dL_law_431 ?_
  refine Ev.aload_n (i := 0) dL_law_432 rfl rfl ?_
  refine Ev.iload dL_law_433 rfl ?_
  refine Ei.const dL_law_435 ?_
  refine Ei.add dL_law_436 ?_
  refine Ev.rdS (by omega) (by omega) hs dL_law_437 ?_
  refine Em.cv1 (As := [_, _]) L1.2.1.1 k_X11_addPacks (tb7 (i := 137) rfl) ki_X11_addPacks kv_X11_addPacks dL_law_438 rfl rfl (by decide) (by decide) (s_X11_addPacks L1.2.1.1 hI2 (sx_r X i 1) (sx_r X i 2) (fun _ _ => by have u21 : 0 ≤ v 21 (sx X i 1) ∧ v 21 (sx X i 1) ≤ 9 * T := hI.2 21 (sx X i 1); omega)) ?_
  refine Ev.istore dL_law_441 (by decide) ?_
  refine Ev.aload_n (i := 2) dL_law_443 rfl rfl ?_
  refine Em.cv1 (As := []) L1.2.1.1 k_X11_thrown (tb7 (i := 114) rfl) ki_X11_thrown kv_X11_thrown dL_law_444 rfl rfl (by decide) (by decide) (s_X11_thrown L1.2.1.1 I3) ?_
  refine Ev.iload dL_law_447 rfl ?_
  refine Ei.icmp_eq_t (tgt := 454) dL_law_449 (by decide) (show R32 ((f_addPacks (sx X i 1) (sx X i 2) v).2 0 0) from ⟨by omega, by omega⟩) (show R32 ((f_addPacks (sx X i 1) (sx X i 2) v).2 0 0) from ⟨by omega, by omega⟩) rfl ?_
  refine Ev.iload dL_law_454 rfl ?_
  by_cases z : (f_addPacks (sx X i 1) (sx X i 2) v).2 0 0 = 0
  · refine Ei.if_ne_f (tgt := 471) dL_law_456 (by decide) (show R32 ((f_addPacks (sx X i 1) (sx X i 2) v).2 0 0) from ⟨by omega, by omega⟩) (fun q => q z) ?_
    refine Ev.aload_n (i := 3) dL_law_459 rfl rfl ?_
    refine Ei.const dL_law_460 ?_
    refine Ev.lald L1.2.2.1.1 (vin0 L1.2.2.1.2) dL_law_461 ?_
    rw [clamp0, show (Hm τ m0 (f_addPacks (sx X i 1) (sx X i 2) v).2).lv oL 0 = (i32 (f_addPacks (sx X i 1) (sx X i 2) v).1).toInt64 from hz z]
    refine Ev.iload dL_law_462 rfl ?_
    refine Ev.i2l dL_law_464 rfl ?_
    refine Ev.lcmp dL_law_465 ?_
    rw [lcmp_s]
    refine Ei.if_eq_t (tgt := 471) dL_law_466 (by decide) ⟨by decide, by decide⟩ rfl ?_
    refine Ev.goto (tgt := 2228) dL_law_471 (by decide) ?_
    exact Ev.fgt (ls' := lsL X (A 13 0) m0 oL oD i) ⟨rfl, ⟨rfl, ⟨rfl, ⟨rfl, ⟨rfl, ⟨rfl, trivial⟩⟩⟩⟩⟩⟩ fin
  · refine Ei.if_ne_t (tgt := 471) dL_law_456 (by decide) (show R32 ((f_addPacks (sx X i 1) (sx X i 2) v).2 0 0) from ⟨by omega, by omega⟩) z ?_
    refine Ev.goto (tgt := 2228) dL_law_471 (by decide) ?_
    exact Ev.fgt (ls' := lsL X (A 13 0) m0 oL oD i) ⟨rfl, ⟨rfl, ⟨rfl, ⟨rfl, ⟨rfl, ⟨rfl, trivial⟩⟩⟩⟩⟩⟩ fin
theorem c_pitches {X : Cx} {σ : Hp} {A : Nat → Int → Nat} {c : Cs} {B : Int → Nat} {m0 oL oD : Nat} {v : Vw} {T E i : Int} (hN : KN X) (hL : LW X σ A c B m0 oL oD v) (hV : INV c v) (hI : IM v T E) (hT : T + 31 ≤ 20000) (hE : E + 102300 ≤ 1000000000) (hi : 0 ≤ i) (hi3 : i + 3 < X.sL) (hs : X.sL ≤ 2048) :
    ∃ τ A' B', (LW X τ A' (g_X10_pitches (sx X i 1) c).2 B' m0 oL oD (f_pitches (sx X i 1) v).2 ∧ INV (g_X10_pitches (sx X i 1) c).2 (f_pitches (sx X i 1) v).2 ∧ IM (f_pitches (sx X i 1) v).2 (T + 31) (E + 102300) ∧ A' 13 0 = A 13 0) ∧ ∀ (o : Rs) (τf : Hp), Ev X m_L_law 30 2228 (lsL X (A 13 0) m0 oL oD i) [] τ o τf → Ev X m_L_law 30 474 (lsL X (A 13 0) m0 oL oD i) [] σ o τf := by
  have hT0 := hI.1
  have hI2 : IM v (T + 31) E := hI.mono (by omega) (Int.le_refl _) (by omega) (by omega)
  obtain ⟨τ, A2, B2, hC, L1, hV2, e13, hz⟩ := w_pitches hN hL hV hI2 (sx_r X i 1)
  have I3 : IM (f_pitches (sx X i 1) v).2 (T + 31) (E + 102300) := (i_pitches hI2 (sx_r X i 1)).mono (Int.le_refl _) (by omega) (by omega) (by omega)
  have t0 : 0 ≤ (f_pitches (sx X i 1) v).2 0 0 ∧ (f_pitches (sx X i 1) v).2 0 0 ≤ 4 := I3.2 0 0
  refine ⟨Hm τ m0 (f_pitches (sx X i 1) v).2, A2, B2, ⟨L1.mod _, hV2, I3, e13⟩, fun o τf fin => ?_⟩
  refine Ev.aload_n (i := 1) dL_law_474 rfl rfl ?_
  refine Ev.aload_n (i := 0) dL_law_475 rfl rfl ?_
  refine Ev.iload dL_law_476 rfl ?_
  refine Ei.const dL_law_478 ?_
  refine Ei.add dL_law_479 ?_
  refine Ev.rdS (by omega) (by omega) hs dL_law_480 ?_
  refine Ev.aload_n (i := 3) dL_law_481 rfl rfl ?_
  refine Ev.callSH (As := [_, _, _]) (v := some (.int (i32 ((f_pitches (sx X i 1) v).2 0 0)))) k_L_pitches (tb2 (i := 233) rfl) ki_L_pitches dL_law_482 rfl rfl (by decide) (by decide) hC ?_
  refine Ev.istore dL_law_485 (by decide) ?_
  refine Ev.hp L1.2.1.2 ?_
  refine Ev.aload_n (i := 2) dL_law_487 rfl rfl ?_
  refine Ev.aload_n (i := 0) dL_law_488 rfl rfl ?_
  refine Ev.iload dL_law_489 rfl ?_
  refine Ei.const dL_law_491 ?_
  refine Ei.add dL_law_492 ?_
  refine Ev.rdS (by omega) (by omega) hs dL_law_493 ?_
  refine Em.cv1 (As := [_]) L1.2.1.1 k_X11_pitches (tb7 (i := 141) rfl) ki_X11_pitches kv_X11_pitches dL_law_494 rfl rfl (by decide) (by decide) (s_X11_pitches L1.2.1.1 hI2 (sx_r X i 1)) ?_
  refine Ev.istore dL_law_497 (by decide) ?_
  refine Ev.aload_n (i := 2) dL_law_499 rfl rfl ?_
  refine Em.cv1 (As := []) L1.2.1.1 k_X11_thrown (tb7 (i := 114) rfl) ki_X11_thrown kv_X11_thrown dL_law_500 rfl rfl (by decide) (by decide) (s_X11_thrown L1.2.1.1 I3) ?_
  refine Ev.iload dL_law_503 rfl ?_
  refine Ei.icmp_eq_t (tgt := 510) dL_law_505 (by decide) (show R32 ((f_pitches (sx X i 1) v).2 0 0) from ⟨by omega, by omega⟩) (show R32 ((f_pitches (sx X i 1) v).2 0 0) from ⟨by omega, by omega⟩) rfl ?_
  refine Ev.iload dL_law_510 rfl ?_
  by_cases z : (f_pitches (sx X i 1) v).2 0 0 = 0
  · refine Ei.if_ne_f (tgt := 527) dL_law_512 (by decide) (show R32 ((f_pitches (sx X i 1) v).2 0 0) from ⟨by omega, by omega⟩) (fun q => q z) ?_
    refine Ev.aload_n (i := 3) dL_law_515 rfl rfl ?_
    refine Ei.const dL_law_516 ?_
    refine Ev.lald L1.2.2.1.1 (vin0 L1.2.2.1.2) dL_law_517 ?_
    rw [clamp0, show (Hm τ m0 (f_pitches (sx X i 1) v).2).lv oL 0 = (i32 (f_pitches (sx X i 1) v).1).toInt64 from hz z]
    refine Ev.iload dL_law_518 rfl ?_
    refine Ev.i2l dL_law_520 rfl ?_
    refine Ev.lcmp dL_law_521 ?_
    rw [lcmp_s]
    refine Ei.if_eq_t (tgt := 527) dL_law_522 (by decide) ⟨by decide, by decide⟩ rfl ?_
    refine Ev.goto (tgt := 2228) dL_law_527 (by decide) ?_
    exact Ev.fgt (ls' := lsL X (A 13 0) m0 oL oD i) ⟨rfl, ⟨rfl, ⟨rfl, ⟨rfl, ⟨rfl, ⟨rfl, trivial⟩⟩⟩⟩⟩⟩ fin
  · refine Ei.if_ne_t (tgt := 527) dL_law_512 (by decide) (show R32 ((f_pitches (sx X i 1) v).2 0 0) from ⟨by omega, by omega⟩) z ?_
    refine Ev.goto (tgt := 2228) dL_law_527 (by decide) ?_
    exact Ev.fgt (ls' := lsL X (A 13 0) m0 oL oD i) ⟨rfl, ⟨rfl, ⟨rfl, ⟨rfl, ⟨rfl, ⟨rfl, trivial⟩⟩⟩⟩⟩⟩ fin
theorem c_nextGeneration {X : Cx} {σ : Hp} {A : Nat → Int → Nat} {c : Cs} {B : Int → Nat} {m0 oL oD : Nat} {v : Vw} {T E i : Int} (hN : KN X) (hL : LW X σ A c B m0 oL oD v) (hV : INV c v) (hI : IM v T E) (hT : T + 31 ≤ 20000) (hE : E + 102300 ≤ 1000000000) (hi : 0 ≤ i) (hi3 : i + 3 < X.sL) (hs : X.sL ≤ 2048) :
    ∃ τ A' B', (LW X τ A' (g_X10_nextGeneration (sx X i 1) c).2 B' m0 oL oD (f_nextGeneration (sx X i 1) v).2 ∧ INV (g_X10_nextGeneration (sx X i 1) c).2 (f_nextGeneration (sx X i 1) v).2 ∧ IM (f_nextGeneration (sx X i 1) v).2 (T + 31) (E + 102300) ∧ A' 13 0 = A 13 0) ∧ ∀ (o : Rs) (τf : Hp), Ev X m_L_law 30 2228 (lsL X (A 13 0) m0 oL oD i) [] τ o τf → Ev X m_L_law 30 530 (lsL X (A 13 0) m0 oL oD i) [] σ o τf := by
  have hT0 := hI.1
  have hI2 : IM v (T + 31) E := hI.mono (by omega) (Int.le_refl _) (by omega) (by omega)
  obtain ⟨τ, A2, B2, hC, L1, hV2, e13, hz⟩ := w_nextGeneration hN hL hV hI2 (sx_r X i 1)
  have I3 : IM (f_nextGeneration (sx X i 1) v).2 (T + 31) (E + 102300) := (i_nextGeneration hI2 (sx_r X i 1)).mono (Int.le_refl _) (by omega) (by omega) (by omega)
  have t0 : 0 ≤ (f_nextGeneration (sx X i 1) v).2 0 0 ∧ (f_nextGeneration (sx X i 1) v).2 0 0 ≤ 4 := I3.2 0 0
  refine ⟨Hm τ m0 (f_nextGeneration (sx X i 1) v).2, A2, B2, ⟨L1.mod _, hV2, I3, e13⟩, fun o τf fin => ?_⟩
  refine Ev.aload_n (i := 1) dL_law_530 rfl rfl ?_
  refine Ev.aload_n (i := 0) dL_law_531 rfl rfl ?_
  refine Ev.iload dL_law_532 rfl ?_
  refine Ei.const dL_law_534 ?_
  refine Ei.add dL_law_535 ?_
  refine Ev.rdS (by omega) (by omega) hs dL_law_536 ?_
  refine Ev.aload_n (i := 3) dL_law_537 rfl rfl ?_
  refine Ev.callSH (As := [_, _, _]) (v := some (.int (i32 ((f_nextGeneration (sx X i 1) v).2 0 0)))) k_L_nextGeneration (tb3 (i := 13) rfl) ki_L_nextGeneration dL_law_538 rfl rfl (by decide) (by decide) hC ?_
  refine Ev.istore dL_law_541 (by decide) ?_
  refine Ev.hp L1.2.1.2 ?_
  refine Ev.aload_n (i := 2) dL_law_543 rfl rfl ?_
  refine Ev.aload_n (i := 0) dL_law_544 rfl rfl ?_
  refine Ev.iload dL_law_545 rfl ?_
  refine Ei.const dL_law_547 ?_
  refine Ei.add dL_law_548 ?_
  refine Ev.rdS (by omega) (by omega) hs dL_law_549 ?_
  refine Em.cv1 (As := [_]) L1.2.1.1 k_X11_nextGeneration (tb7 (i := 149) rfl) ki_X11_nextGeneration kv_X11_nextGeneration dL_law_550 rfl rfl (by decide) (by decide) (s_X11_nextGeneration L1.2.1.1 hI2 (sx_r X i 1)) ?_
  refine Ev.istore dL_law_553 (by decide) ?_
  refine Ev.aload_n (i := 2) dL_law_555 rfl rfl ?_
  refine Em.cv1 (As := []) L1.2.1.1 k_X11_thrown (tb7 (i := 114) rfl) ki_X11_thrown kv_X11_thrown dL_law_556 rfl rfl (by decide) (by decide) (s_X11_thrown L1.2.1.1 I3) ?_
  refine Ev.iload dL_law_559 rfl ?_
  refine Ei.icmp_eq_t (tgt := 566) dL_law_561 (by decide) (show R32 ((f_nextGeneration (sx X i 1) v).2 0 0) from ⟨by omega, by omega⟩) (show R32 ((f_nextGeneration (sx X i 1) v).2 0 0) from ⟨by omega, by omega⟩) rfl ?_
  refine Ev.iload dL_law_566 rfl ?_
  by_cases z : (f_nextGeneration (sx X i 1) v).2 0 0 = 0
  · refine Ei.if_ne_f (tgt := 583) dL_law_568 (by decide) (show R32 ((f_nextGeneration (sx X i 1) v).2 0 0) from ⟨by omega, by omega⟩) (fun q => q z) ?_
    refine Ev.aload_n (i := 3) dL_law_571 rfl rfl ?_
    refine Ei.const dL_law_572 ?_
    refine Ev.lald L1.2.2.1.1 (vin0 L1.2.2.1.2) dL_law_573 ?_
    rw [clamp0, show (Hm τ m0 (f_nextGeneration (sx X i 1) v).2).lv oL 0 = (i32 (f_nextGeneration (sx X i 1) v).1).toInt64 from hz z]
    refine Ev.iload dL_law_574 rfl ?_
    refine Ev.i2l dL_law_576 rfl ?_
    refine Ev.lcmp dL_law_577 ?_
    rw [lcmp_s]
    refine Ei.if_eq_t (tgt := 583) dL_law_578 (by decide) ⟨by decide, by decide⟩ rfl ?_
    refine Ev.goto (tgt := 2228) dL_law_583 (by decide) ?_
    exact Ev.fgt (ls' := lsL X (A 13 0) m0 oL oD i) ⟨rfl, ⟨rfl, ⟨rfl, ⟨rfl, ⟨rfl, ⟨rfl, trivial⟩⟩⟩⟩⟩⟩ fin
  · refine Ei.if_ne_t (tgt := 583) dL_law_568 (by decide) (show R32 ((f_nextGeneration (sx X i 1) v).2 0 0) from ⟨by omega, by omega⟩) z ?_
    refine Ev.goto (tgt := 2228) dL_law_583 (by decide) ?_
    exact Ev.fgt (ls' := lsL X (A 13 0) m0 oL oD i) ⟨rfl, ⟨rfl, ⟨rfl, ⟨rfl, ⟨rfl, ⟨rfl, trivial⟩⟩⟩⟩⟩⟩ fin
theorem c_brew {X : Cx} {σ : Hp} {A : Nat → Int → Nat} {c : Cs} {B : Int → Nat} {m0 oL oD : Nat} {v : Vw} {T E i : Int} (hN : KN X) (hL : LW X σ A c B m0 oL oD v) (hV : INV c v) (hI : IM v T E) (hT : T + 31 ≤ 20000) (hE : E + 102300 ≤ 1000000000) (hi : 0 ≤ i) (hi3 : i + 3 < X.sL) (hs : X.sL ≤ 2048) :
    ∃ τ A' B', (LW X τ A' (g_X10_brew (sx X i 1) (sx X i 2) c).2 B' m0 oL oD (f_brew (sx X i 1) (sx X i 2) v).2 ∧ INV (g_X10_brew (sx X i 1) (sx X i 2) c).2 (f_brew (sx X i 1) (sx X i 2) v).2 ∧ IM (f_brew (sx X i 1) (sx X i 2) v).2 (T + 31) (E + 102300) ∧ A' 13 0 = A 13 0) ∧ ∀ (o : Rs) (τf : Hp), Ev X m_L_law 30 2228 (lsL X (A 13 0) m0 oL oD i) [] τ o τf → Ev X m_L_law 30 586 (lsL X (A 13 0) m0 oL oD i) [] σ o τf := by
  have hT0 := hI.1
  have hI2 : IM v (T + 31) E := hI.mono (by omega) (Int.le_refl _) (by omega) (by omega)
  obtain ⟨τ, A2, B2, hC, L1, hV2, e13, hz⟩ := w_brew hN hL hV hI2 (sx_r X i 1) (sx_r X i 2)
  have I3 : IM (f_brew (sx X i 1) (sx X i 2) v).2 (T + 31) (E + 102300) := (i_brew hI2 (sx_r X i 1) (sx_r X i 2) hV.2.2.1.1).mono (Int.le_refl _) (by omega) (by omega) (by omega)
  have t0 : 0 ≤ (f_brew (sx X i 1) (sx X i 2) v).2 0 0 ∧ (f_brew (sx X i 1) (sx X i 2) v).2 0 0 ≤ 4 := I3.2 0 0
  refine ⟨Hm τ m0 (f_brew (sx X i 1) (sx X i 2) v).2, A2, B2, ⟨L1.mod _, hV2, I3, e13⟩, fun o τf fin => ?_⟩
  refine Ev.aload_n (i := 1) dL_law_586 rfl rfl ?_
  refine Ev.aload_n (i := 0) dL_law_587 rfl rfl ?_
  refine Ev.iload dL_law_588 rfl ?_
  refine Ei.const dL_law_590 ?_
  refine Ei.add dL_law_591 ?_
  refine Ev.rdS (by omega) (by omega) hs dL_law_592 ?_
  refine Ev.aload_n (i := 0) dL_law_593 rfl rfl ?_
  refine Ev.iload dL_law_594 rfl ?_
  refine Ei.const dL_law_596 ?_
  refine Ei.add dL_law_597 ?_
  refine Ev.rdS (by omega) (by omega) hs dL_law_598 ?_
  refine Ev.aload_n (i := 3) dL_law_599 rfl rfl ?_
  refine Ev.callSH (As := [_, _, _, _]) (v := some (.int (i32 ((f_brew (sx X i 1) (sx X i 2) v).2 0 0)))) k_L_brew (tb3 (i := 49) rfl) ki_L_brew dL_law_600 rfl rfl (by decide) (by decide) hC ?_
  refine Ev.istore dL_law_603 (by decide) ?_
  refine Ev.hp L1.2.1.2 ?_
  refine Ev.aload_n (i := 2) dL_law_605 rfl rfl ?_
  refine Ev.aload_n (i := 0) dL_law_606 rfl rfl ?_
  refine Ev.iload dL_law_607 rfl ?_
  refine Ei.const dL_law_609 ?_
  refine Ei.add dL_law_610 ?_
  refine Ev.rdS (by omega) (by omega) hs dL_law_611 ?_
  refine Ev.aload_n (i := 0) dL_law_612 rfl rfl ?_
  refine Ev.iload dL_law_613 rfl ?_
  refine Ei.const dL_law_615 ?_
  refine Ei.add dL_law_616 ?_
  refine Ev.rdS (by omega) (by omega) hs dL_law_617 ?_
  refine Em.cv1 (As := [_, _]) L1.2.1.1 k_X11_brew (tb7 (i := 161) rfl) ki_X11_brew kv_X11_brew dL_law_618 rfl rfl (by decide) (by decide) (s_X11_brew L1.2.1.1 hI2 (sx_r X i 1) (sx_r X i 2) hV.2.2.1.1) ?_
  refine Ev.istore dL_law_621 (by decide) ?_
  refine Ev.aload_n (i := 2) dL_law_623 rfl rfl ?_
  refine Em.cv1 (As := []) L1.2.1.1 k_X11_thrown (tb7 (i := 114) rfl) ki_X11_thrown kv_X11_thrown dL_law_624 rfl rfl (by decide) (by decide) (s_X11_thrown L1.2.1.1 I3) ?_
  refine Ev.iload dL_law_627 rfl ?_
  refine Ei.icmp_eq_t (tgt := 634) dL_law_629 (by decide) (show R32 ((f_brew (sx X i 1) (sx X i 2) v).2 0 0) from ⟨by omega, by omega⟩) (show R32 ((f_brew (sx X i 1) (sx X i 2) v).2 0 0) from ⟨by omega, by omega⟩) rfl ?_
  refine Ev.iload dL_law_634 rfl ?_
  by_cases z : (f_brew (sx X i 1) (sx X i 2) v).2 0 0 = 0
  · refine Ei.if_ne_f (tgt := 651) dL_law_636 (by decide) (show R32 ((f_brew (sx X i 1) (sx X i 2) v).2 0 0) from ⟨by omega, by omega⟩) (fun q => q z) ?_
    refine Ev.aload_n (i := 3) dL_law_639 rfl rfl ?_
    refine Ei.const dL_law_640 ?_
    refine Ev.lald L1.2.2.1.1 (vin0 L1.2.2.1.2) dL_law_641 ?_
    rw [clamp0, show (Hm τ m0 (f_brew (sx X i 1) (sx X i 2) v).2).lv oL 0 = (i32 (f_brew (sx X i 1) (sx X i 2) v).1).toInt64 from hz z]
    refine Ev.iload dL_law_642 rfl ?_
    refine Ev.i2l dL_law_644 rfl ?_
    refine Ev.lcmp dL_law_645 ?_
    rw [lcmp_s]
    refine Ei.if_eq_t (tgt := 651) dL_law_646 (by decide) ⟨by decide, by decide⟩ rfl ?_
    refine Ev.goto (tgt := 2228) dL_law_651 (by decide) ?_
    exact Ev.fgt (ls' := lsL X (A 13 0) m0 oL oD i) ⟨rfl, ⟨rfl, ⟨rfl, ⟨rfl, ⟨rfl, ⟨rfl, trivial⟩⟩⟩⟩⟩⟩ fin
  · refine Ei.if_ne_t (tgt := 651) dL_law_636 (by decide) (show R32 ((f_brew (sx X i 1) (sx X i 2) v).2 0 0) from ⟨by omega, by omega⟩) z ?_
    refine Ev.goto (tgt := 2228) dL_law_651 (by decide) ?_
    exact Ev.fgt (ls' := lsL X (A 13 0) m0 oL oD i) ⟨rfl, ⟨rfl, ⟨rfl, ⟨rfl, ⟨rfl, ⟨rfl, trivial⟩⟩⟩⟩⟩⟩ fin
theorem c_enqueue {X : Cx} {σ : Hp} {A : Nat → Int → Nat} {c : Cs} {B : Int → Nat} {m0 oL oD : Nat} {v : Vw} {T E i : Int} (hN : KN X) (hL : LW X σ A c B m0 oL oD v) (hV : INV c v) (hI : IM v T E) (hT : T + 31 ≤ 20000) (hE : E + 102300 ≤ 1000000000) (hi : 0 ≤ i) (hi3 : i + 3 < X.sL) (hs : X.sL ≤ 2048) :
    ∃ τ A' B', (LW X τ A' (g_X10_enqueue (sx X i 1) c).2 B' m0 oL oD (f_enqueue (sx X i 1) v).2 ∧ INV (g_X10_enqueue (sx X i 1) c).2 (f_enqueue (sx X i 1) v).2 ∧ IM (f_enqueue (sx X i 1) v).2 (T + 31) (E + 102300) ∧ A' 13 0 = A 13 0) ∧ ∀ (o : Rs) (τf : Hp), Ev X m_L_law 30 2228 (lsL X (A 13 0) m0 oL oD i) [] τ o τf → Ev X m_L_law 30 654 (lsL X (A 13 0) m0 oL oD i) [] σ o τf := by
  have hT0 := hI.1
  have hI2 : IM v (T + 31) E := hI.mono (by omega) (Int.le_refl _) (by omega) (by omega)
  obtain ⟨τ, A2, B2, hC, L1, hV2, e13, hz⟩ := w_enqueue hN hL hV hI2 (sx_r X i 1)
  have I3 : IM (f_enqueue (sx X i 1) v).2 (T + 31) (E + 102300) := (i_enqueue hI2 (sx_r X i 1) (hI.2 1 0).2).mono (Int.le_refl _) (by omega) (by omega) (by omega)
  have t0 : 0 ≤ (f_enqueue (sx X i 1) v).2 0 0 ∧ (f_enqueue (sx X i 1) v).2 0 0 ≤ 4 := I3.2 0 0
  refine ⟨Hm τ m0 (f_enqueue (sx X i 1) v).2, A2, B2, ⟨L1.mod _, hV2, I3, e13⟩, fun o τf fin => ?_⟩
  refine Ev.aload_n (i := 1) dL_law_654 rfl rfl ?_
  refine Ev.aload_n (i := 0) dL_law_655 rfl rfl ?_
  refine Ev.iload dL_law_656 rfl ?_
  refine Ei.const dL_law_658 ?_
  refine Ei.add dL_law_659 ?_
  refine Ev.rdS (by omega) (by omega) hs dL_law_660 ?_
  refine Ev.aload_n (i := 3) dL_law_661 rfl rfl ?_
  refine Ev.callSH (As := [_, _, _]) (v := some (.int (i32 ((f_enqueue (sx X i 1) v).2 0 0)))) k_L_enqueue (tb3 (i := 172) rfl) ki_L_enqueue dL_law_662 rfl rfl (by decide) (by decide) hC ?_
  refine Ev.istore dL_law_665 (by decide) ?_
  refine Ev.hp L1.2.1.2 ?_
  refine Ev.aload_n (i := 2) dL_law_667 rfl rfl ?_
  refine Ev.aload_n (i := 0) dL_law_668 rfl rfl ?_
  refine Ev.iload dL_law_669 rfl ?_
  refine Ei.const dL_law_671 ?_
  refine Ei.add dL_law_672 ?_
  refine Ev.rdS (by omega) (by omega) hs dL_law_673 ?_
  refine Em.cv1 (As := [_]) L1.2.1.1 k_X11_enqueue (tb7 (i := 177) rfl) ki_X11_enqueue kv_X11_enqueue dL_law_674 rfl rfl (by decide) (by decide) (s_X11_enqueue L1.2.1.1 hI2 (sx_r X i 1) (hI.2 1 0).2) ?_
  refine Ev.istore dL_law_677 (by decide) ?_
  refine Ev.aload_n (i := 2) dL_law_679 rfl rfl ?_
  refine Em.cv1 (As := []) L1.2.1.1 k_X11_thrown (tb7 (i := 114) rfl) ki_X11_thrown kv_X11_thrown dL_law_680 rfl rfl (by decide) (by decide) (s_X11_thrown L1.2.1.1 I3) ?_
  refine Ev.iload dL_law_683 rfl ?_
  refine Ei.icmp_eq_t (tgt := 690) dL_law_685 (by decide) (show R32 ((f_enqueue (sx X i 1) v).2 0 0) from ⟨by omega, by omega⟩) (show R32 ((f_enqueue (sx X i 1) v).2 0 0) from ⟨by omega, by omega⟩) rfl ?_
  refine Ev.iload dL_law_690 rfl ?_
  by_cases z : (f_enqueue (sx X i 1) v).2 0 0 = 0
  · refine Ei.if_ne_f (tgt := 707) dL_law_692 (by decide) (show R32 ((f_enqueue (sx X i 1) v).2 0 0) from ⟨by omega, by omega⟩) (fun q => q z) ?_
    refine Ev.aload_n (i := 3) dL_law_695 rfl rfl ?_
    refine Ei.const dL_law_696 ?_
    refine Ev.lald L1.2.2.1.1 (vin0 L1.2.2.1.2) dL_law_697 ?_
    rw [clamp0, show (Hm τ m0 (f_enqueue (sx X i 1) v).2).lv oL 0 = (i32 (f_enqueue (sx X i 1) v).1).toInt64 from hz z]
    refine Ev.iload dL_law_698 rfl ?_
    refine Ev.i2l dL_law_700 rfl ?_
    refine Ev.lcmp dL_law_701 ?_
    rw [lcmp_s]
    refine Ei.if_eq_t (tgt := 707) dL_law_702 (by decide) ⟨by decide, by decide⟩ rfl ?_
    refine Ev.goto (tgt := 2228) dL_law_707 (by decide) ?_
    exact Ev.fgt (ls' := lsL X (A 13 0) m0 oL oD i) ⟨rfl, ⟨rfl, ⟨rfl, ⟨rfl, ⟨rfl, ⟨rfl, trivial⟩⟩⟩⟩⟩⟩ fin
  · refine Ei.if_ne_t (tgt := 707) dL_law_692 (by decide) (show R32 ((f_enqueue (sx X i 1) v).2 0 0) from ⟨by omega, by omega⟩) z ?_
    refine Ev.goto (tgt := 2228) dL_law_707 (by decide) ?_
    exact Ev.fgt (ls' := lsL X (A 13 0) m0 oL oD i) ⟨rfl, ⟨rfl, ⟨rfl, ⟨rfl, ⟨rfl, ⟨rfl, trivial⟩⟩⟩⟩⟩⟩ fin
theorem c_withdraw {X : Cx} {σ : Hp} {A : Nat → Int → Nat} {c : Cs} {B : Int → Nat} {m0 oL oD : Nat} {v : Vw} {T E i : Int} (hN : KN X) (hL : LW X σ A c B m0 oL oD v) (hV : INV c v) (hI : IM v T E) (hT : T + 31 ≤ 20000) (hE : E + 102300 ≤ 1000000000) (hi : 0 ≤ i) (hi3 : i + 3 < X.sL) (hs : X.sL ≤ 2048) :
    ∃ τ A' B', (LW X τ A' (g_X10_withdraw (sx X i 1) c).2 B' m0 oL oD (f_withdraw (sx X i 1) v).2 ∧ INV (g_X10_withdraw (sx X i 1) c).2 (f_withdraw (sx X i 1) v).2 ∧ IM (f_withdraw (sx X i 1) v).2 (T + 31) (E + 102300) ∧ A' 13 0 = A 13 0) ∧ ∀ (o : Rs) (τf : Hp), Ev X m_L_law 30 2228 (lsL X (A 13 0) m0 oL oD i) [] τ o τf → Ev X m_L_law 30 710 (lsL X (A 13 0) m0 oL oD i) [] σ o τf := by
  have hT0 := hI.1
  have hI2 : IM v (T + 31) E := hI.mono (by omega) (Int.le_refl _) (by omega) (by omega)
  obtain ⟨τ, A2, B2, hC, L1, hV2, e13, hz⟩ := w_withdraw hN hL hV hI2 (sx_r X i 1)
  have I3 : IM (f_withdraw (sx X i 1) v).2 (T + 31) (E + 102300) := (i_withdraw hI2 (sx_r X i 1)).mono (Int.le_refl _) (by omega) (by omega) (by omega)
  have t0 : 0 ≤ (f_withdraw (sx X i 1) v).2 0 0 ∧ (f_withdraw (sx X i 1) v).2 0 0 ≤ 4 := I3.2 0 0
  refine ⟨Hm τ m0 (f_withdraw (sx X i 1) v).2, A2, B2, ⟨L1.mod _, hV2, I3, e13⟩, fun o τf fin => ?_⟩
  refine Ev.aload_n (i := 1) dL_law_710 rfl rfl ?_
  refine Ev.aload_n (i := 0) dL_law_711 rfl rfl ?_
  refine Ev.iload dL_law_712 rfl ?_
  refine Ei.const dL_law_714 ?_
  refine Ei.add dL_law_715 ?_
  refine Ev.rdS (by omega) (by omega) hs dL_law_716 ?_
  refine Ev.aload_n (i := 3) dL_law_717 rfl rfl ?_
  refine Ev.callSH (As := [_, _, _]) (v := some (.int (i32 ((f_withdraw (sx X i 1) v).2 0 0)))) k_L_withdraw (tb3 (i := 180) rfl) ki_L_withdraw dL_law_718 rfl rfl (by decide) (by decide) hC ?_
  refine Ev.istore dL_law_721 (by decide) ?_
  refine Ev.hp L1.2.1.2 ?_
  refine Ev.aload_n (i := 2) dL_law_723 rfl rfl ?_
  refine Ev.aload_n (i := 0) dL_law_724 rfl rfl ?_
  refine Ev.iload dL_law_725 rfl ?_
  refine Ei.const dL_law_727 ?_
  refine Ei.add dL_law_728 ?_
  refine Ev.rdS (by omega) (by omega) hs dL_law_729 ?_
  refine Em.cv1 (As := [_]) L1.2.1.1 k_X11_withdraw (tb7 (i := 181) rfl) ki_X11_withdraw kv_X11_withdraw dL_law_730 rfl rfl (by decide) (by decide) (s_X11_withdraw L1.2.1.1 hI2 (sx_r X i 1)) ?_
  refine Ev.istore dL_law_733 (by decide) ?_
  refine Ev.aload_n (i := 2) dL_law_735 rfl rfl ?_
  refine Em.cv1 (As := []) L1.2.1.1 k_X11_thrown (tb7 (i := 114) rfl) ki_X11_thrown kv_X11_thrown dL_law_736 rfl rfl (by decide) (by decide) (s_X11_thrown L1.2.1.1 I3) ?_
  refine Ev.iload dL_law_739 rfl ?_
  refine Ei.icmp_eq_t (tgt := 746) dL_law_741 (by decide) (show R32 ((f_withdraw (sx X i 1) v).2 0 0) from ⟨by omega, by omega⟩) (show R32 ((f_withdraw (sx X i 1) v).2 0 0) from ⟨by omega, by omega⟩) rfl ?_
  refine Ev.iload dL_law_746 rfl ?_
  by_cases z : (f_withdraw (sx X i 1) v).2 0 0 = 0
  · refine Ei.if_ne_f (tgt := 763) dL_law_748 (by decide) (show R32 ((f_withdraw (sx X i 1) v).2 0 0) from ⟨by omega, by omega⟩) (fun q => q z) ?_
    refine Ev.aload_n (i := 3) dL_law_751 rfl rfl ?_
    refine Ei.const dL_law_752 ?_
    refine Ev.lald L1.2.2.1.1 (vin0 L1.2.2.1.2) dL_law_753 ?_
    rw [clamp0, show (Hm τ m0 (f_withdraw (sx X i 1) v).2).lv oL 0 = (i32 (f_withdraw (sx X i 1) v).1).toInt64 from hz z]
    refine Ev.iload dL_law_754 rfl ?_
    refine Ev.i2l dL_law_756 rfl ?_
    refine Ev.lcmp dL_law_757 ?_
    rw [lcmp_s]
    refine Ei.if_eq_t (tgt := 763) dL_law_758 (by decide) ⟨by decide, by decide⟩ rfl ?_
    refine Ev.goto (tgt := 2228) dL_law_763 (by decide) ?_
    exact Ev.fgt (ls' := lsL X (A 13 0) m0 oL oD i) ⟨rfl, ⟨rfl, ⟨rfl, ⟨rfl, ⟨rfl, ⟨rfl, trivial⟩⟩⟩⟩⟩⟩ fin
  · refine Ei.if_ne_t (tgt := 763) dL_law_748 (by decide) (show R32 ((f_withdraw (sx X i 1) v).2 0 0) from ⟨by omega, by omega⟩) z ?_
    refine Ev.goto (tgt := 2228) dL_law_763 (by decide) ?_
    exact Ev.fgt (ls' := lsL X (A 13 0) m0 oL oD i) ⟨rfl, ⟨rfl, ⟨rfl, ⟨rfl, ⟨rfl, ⟨rfl, trivial⟩⟩⟩⟩⟩⟩ fin
theorem c_queued {X : Cx} {σ : Hp} {A : Nat → Int → Nat} {c : Cs} {B : Int → Nat} {m0 oL oD : Nat} {v : Vw} {T E i : Int} (hL : LW X σ A c B m0 oL oD v) (hV : INV c v) (hI : IM v T E) (hT : T + 31 ≤ 20000) (hE : E + 102300 ≤ 1000000000) :
    ∃ τ A' B', (LW X τ A' c B' m0 oL oD (f_queued v).2 ∧ INV c (f_queued v).2 ∧ IM (f_queued v).2 (T + 31) (E + 102300) ∧ A' 13 0 = A 13 0) ∧ ∀ (o : Rs) (τf : Hp), Ev X m_L_law 30 2228 (lsL X (A 13 0) m0 oL oD i) [] τ o τf → Ev X m_L_law 30 766 (lsL X (A 13 0) m0 oL oD i) [] σ o τf := by
  have hT0 := hI.1
  obtain ⟨hA, hV2⟩ := fc_queued hV hI
  obtain ⟨τ, A2, B2, hC, hS, hE2, hw⟩ := s_X10_queued (X := X) (ρ := σ) (c := c) A σ B hL.1 (ws1 hL.1.2)
  obtain ⟨L1, l2, l3⟩ := hL.call hS
  have e13 := (hE2 13 0 (rg13 hL.1.2)).1
  have kd13 : σ.kd (A 13 0) = 14 := hL.1.1.kd (rg13 hL.1.2)
  have I3 : IM (f_queued v).2 (T + 31) (E + 102300) := (i_queued hI).mono (by omega) (by omega) (by omega) (by omega)
  rw [hA] at hC
  refine ⟨Hm τ m0 (f_queued v).2, A2, B2, ⟨L1.mod _, hV2, I3, e13⟩, fun o τf fin => ?_⟩
  refine Ev.aload_n (i := 1) dL_law_766 rfl rfl ?_
  refine Ev.callV (ci := 13) (C := RX10) (T := TX10) (N := 12) (As := []) (v := some (.int (i32 (f_queued v).1))) k_X10_queued rfl kd13 (tb1 (i := 223) rfl) ki_X10_queued kv_X10_queued dL_law_767 rfl rfl (by decide) (by decide) hC ?_
  refine Ev.hp L1.2.1.2 ?_
  refine Ev.aload_n (i := 2) dL_law_770 rfl rfl ?_
  refine Em.cv1 (As := []) L1.2.1.1 k_X11_queued (tb7 (i := 189) rfl) ki_X11_queued kv_X11_queued dL_law_771 rfl rfl (Nat.le_of_ble_eq_true rfl) (by decide) (s_X11_queued L1.2.1.1 hI) ?_
  have u : 0 ≤ (f_queued v).1 ∧ (f_queued v).1 ≤ 6 := hI.2 7 0
  refine Ei.icmp_eq_t (tgt := 2228) dL_law_774 (by decide) (show R32 (f_queued v).1 from ⟨by omega, by omega⟩) (show R32 (f_queued v).1 from ⟨by omega, by omega⟩) rfl ?_
  exact fin
theorem c_queuedAt {X : Cx} {σ : Hp} {A : Nat → Int → Nat} {c : Cs} {B : Int → Nat} {m0 oL oD : Nat} {v : Vw} {T E i : Int} (hN : KN X) (hL : LW X σ A c B m0 oL oD v) (hV : INV c v) (hI : IM v T E) (hT : T + 31 ≤ 20000) (hE : E + 102300 ≤ 1000000000) (hi : 0 ≤ i) (hi3 : i + 3 < X.sL) (hs : X.sL ≤ 2048) :
    ∃ τ A' B', (LW X τ A' (g_X10_queuedAt (sx X i 1) c).2 B' m0 oL oD (f_queuedAt (sx X i 1) v).2 ∧ INV (g_X10_queuedAt (sx X i 1) c).2 (f_queuedAt (sx X i 1) v).2 ∧ IM (f_queuedAt (sx X i 1) v).2 (T + 31) (E + 102300) ∧ A' 13 0 = A 13 0) ∧ ∀ (o : Rs) (τf : Hp), Ev X m_L_law 30 2228 (lsL X (A 13 0) m0 oL oD i) [] τ o τf → Ev X m_L_law 30 779 (lsL X (A 13 0) m0 oL oD i) [] σ o τf := by
  have hT0 := hI.1
  have hI2 : IM v (T + 31) E := hI.mono (by omega) (Int.le_refl _) (by omega) (by omega)
  obtain ⟨τ, A2, B2, hC, L1, hV2, e13, hz⟩ := w_queuedAt hN hL hV hI2 (sx_r X i 1)
  have I3 : IM (f_queuedAt (sx X i 1) v).2 (T + 31) (E + 102300) := (i_queuedAt hI2 (sx_r X i 1)).mono (Int.le_refl _) (by omega) (by omega) (by omega)
  have t0 : 0 ≤ (f_queuedAt (sx X i 1) v).2 0 0 ∧ (f_queuedAt (sx X i 1) v).2 0 0 ≤ 4 := I3.2 0 0
  refine ⟨Hm τ m0 (f_queuedAt (sx X i 1) v).2, A2, B2, ⟨L1.mod _, hV2, I3, e13⟩, fun o τf fin => ?_⟩
  refine Ev.aload_n (i := 1) dL_law_779 rfl rfl ?_
  refine Ev.aload_n (i := 0) dL_law_780 rfl rfl ?_
  refine Ev.iload dL_law_781 rfl ?_
  refine Ei.const dL_law_783 ?_
  refine Ei.add dL_law_784 ?_
  refine Ev.rdS (by omega) (by omega) hs dL_law_785 ?_
  refine Ev.aload_n (i := 3) dL_law_786 rfl rfl ?_
  refine Ev.callSH (As := [_, _, _]) (v := some (.int (i32 ((f_queuedAt (sx X i 1) v).2 0 0)))) k_L_queuedAt (tb3 (i := 194) rfl) ki_L_queuedAt dL_law_787 rfl rfl (by decide) (by decide) hC ?_
  refine Ev.istore dL_law_790 (by decide) ?_
  refine Ev.hp L1.2.1.2 ?_
  refine Ev.aload_n (i := 2) dL_law_792 rfl rfl ?_
  refine Ev.aload_n (i := 0) dL_law_793 rfl rfl ?_
  refine Ev.iload dL_law_794 rfl ?_
  refine Ei.const dL_law_796 ?_
  refine Ei.add dL_law_797 ?_
  refine Ev.rdS (by omega) (by omega) hs dL_law_798 ?_
  refine Em.cv1 (As := [_]) L1.2.1.1 k_X11_queuedAt (tb7 (i := 193) rfl) ki_X11_queuedAt kv_X11_queuedAt dL_law_799 rfl rfl (by decide) (by decide) (s_X11_queuedAt L1.2.1.1 hI2 (sx_r X i 1)) ?_
  refine Ev.istore dL_law_802 (by decide) ?_
  refine Ev.aload_n (i := 2) dL_law_804 rfl rfl ?_
  refine Em.cv1 (As := []) L1.2.1.1 k_X11_thrown (tb7 (i := 114) rfl) ki_X11_thrown kv_X11_thrown dL_law_805 rfl rfl (by decide) (by decide) (s_X11_thrown L1.2.1.1 I3) ?_
  refine Ev.iload dL_law_808 rfl ?_
  refine Ei.icmp_eq_t (tgt := 815) dL_law_810 (by decide) (show R32 ((f_queuedAt (sx X i 1) v).2 0 0) from ⟨by omega, by omega⟩) (show R32 ((f_queuedAt (sx X i 1) v).2 0 0) from ⟨by omega, by omega⟩) rfl ?_
  refine Ev.iload dL_law_815 rfl ?_
  by_cases z : (f_queuedAt (sx X i 1) v).2 0 0 = 0
  · refine Ei.if_ne_f (tgt := 832) dL_law_817 (by decide) (show R32 ((f_queuedAt (sx X i 1) v).2 0 0) from ⟨by omega, by omega⟩) (fun q => q z) ?_
    refine Ev.aload_n (i := 3) dL_law_820 rfl rfl ?_
    refine Ei.const dL_law_821 ?_
    refine Ev.lald L1.2.2.1.1 (vin0 L1.2.2.1.2) dL_law_822 ?_
    rw [clamp0, show (Hm τ m0 (f_queuedAt (sx X i 1) v).2).lv oL 0 = (i32 (f_queuedAt (sx X i 1) v).1).toInt64 from hz z]
    refine Ev.iload dL_law_823 rfl ?_
    refine Ev.i2l dL_law_825 rfl ?_
    refine Ev.lcmp dL_law_826 ?_
    rw [lcmp_s]
    refine Ei.if_eq_t (tgt := 832) dL_law_827 (by decide) ⟨by decide, by decide⟩ rfl ?_
    refine Ev.goto (tgt := 2228) dL_law_832 (by decide) ?_
    exact Ev.fgt (ls' := lsL X (A 13 0) m0 oL oD i) ⟨rfl, ⟨rfl, ⟨rfl, ⟨rfl, ⟨rfl, ⟨rfl, trivial⟩⟩⟩⟩⟩⟩ fin
  · refine Ei.if_ne_t (tgt := 832) dL_law_817 (by decide) (show R32 ((f_queuedAt (sx X i 1) v).2 0 0) from ⟨by omega, by omega⟩) z ?_
    refine Ev.goto (tgt := 2228) dL_law_832 (by decide) ?_
    exact Ev.fgt (ls' := lsL X (A 13 0) m0 oL oD i) ⟨rfl, ⟨rfl, ⟨rfl, ⟨rfl, ⟨rfl, ⟨rfl, trivial⟩⟩⟩⟩⟩⟩ fin
theorem c_forecast {X : Cx} {σ : Hp} {A : Nat → Int → Nat} {c : Cs} {B : Int → Nat} {m0 oL oD : Nat} {v : Vw} {T E i : Int} (hN : KN X) (hL : LW X σ A c B m0 oL oD v) (hV : INV c v) (hI : IM v T E) (hT : T + 31 ≤ 20000) (hE : E + 102300 ≤ 1000000000) (hi : 0 ≤ i) (hi3 : i + 3 < X.sL) (hs : X.sL ≤ 2048) :
    ∃ τ A' B', (LW X τ A' (g_X10_forecast c).2 B' m0 oL oD (f_forecast v).2 ∧ INV (g_X10_forecast c).2 (f_forecast v).2 ∧ IM (f_forecast v).2 (T + 31) (E + 102300) ∧ A' 13 0 = A 13 0) ∧ ∀ (o : Rs) (τf : Hp), Ev X m_L_law 30 2228 (lsL X (A 13 0) m0 oL oD i) [] τ o τf → Ev X m_L_law 30 835 (lsL X (A 13 0) m0 oL oD i) [] σ o τf := by
  have hT0 := hI.1
  have hI2 : IM v (T + 31) E := hI.mono (by omega) (Int.le_refl _) (by omega) (by omega)
  obtain ⟨τ, A2, B2, hC, L1, hV2, e13, hz⟩ := w_forecast hN hL hV hI2
  have I3 : IM (f_forecast v).2 (T + 31) (E + 102300) := (i_forecast hI2).mono (Int.le_refl _) (by omega) (by omega) (by omega)
  have t0 : 0 ≤ (f_forecast v).2 0 0 ∧ (f_forecast v).2 0 0 ≤ 4 := I3.2 0 0
  refine ⟨Hm τ m0 (f_forecast v).2, A2, B2, ⟨L1.mod _, hV2, I3, e13⟩, fun o τf fin => ?_⟩
  refine Ev.aload_n (i := 1) dL_law_835 rfl rfl ?_
  refine Ev.aload_n (i := 3) dL_law_836 rfl rfl ?_
  refine Ev.callSH (As := [_, _]) (v := some (.int (i32 ((f_forecast v).2 0 0)))) k_L_forecast (tb3 (i := 201) rfl) ki_L_forecast dL_law_837 rfl rfl (by decide) (by decide) hC ?_
  refine Ev.istore dL_law_840 (by decide) ?_
  refine Ev.hp L1.2.1.2 ?_
  refine Ev.aload_n (i := 2) dL_law_842 rfl rfl ?_
  refine Em.cv1 (As := []) L1.2.1.1 k_X11_forecast (tb7 (i := 197) rfl) ki_X11_forecast kv_X11_forecast dL_law_843 rfl rfl (by decide) (by decide) (s_X11_forecast L1.2.1.1 hI2) ?_
  refine Ev.istore dL_law_846 (by decide) ?_
  refine Ev.aload_n (i := 2) dL_law_848 rfl rfl ?_
  refine Em.cv1 (As := []) L1.2.1.1 k_X11_thrown (tb7 (i := 114) rfl) ki_X11_thrown kv_X11_thrown dL_law_849 rfl rfl (by decide) (by decide) (s_X11_thrown L1.2.1.1 I3) ?_
  refine Ev.iload dL_law_852 rfl ?_
  refine Ei.icmp_eq_t (tgt := 859) dL_law_854 (by decide) (show R32 ((f_forecast v).2 0 0) from ⟨by omega, by omega⟩) (show R32 ((f_forecast v).2 0 0) from ⟨by omega, by omega⟩) rfl ?_
  refine Ev.iload dL_law_859 rfl ?_
  by_cases z : (f_forecast v).2 0 0 = 0
  · refine Ei.if_ne_f (tgt := 876) dL_law_861 (by decide) (show R32 ((f_forecast v).2 0 0) from ⟨by omega, by omega⟩) (fun q => q z) ?_
    refine Ev.aload_n (i := 3) dL_law_864 rfl rfl ?_
    refine Ei.const dL_law_865 ?_
    refine Ev.lald L1.2.2.1.1 (vin0 L1.2.2.1.2) dL_law_866 ?_
    rw [clamp0, show (Hm τ m0 (f_forecast v).2).lv oL 0 = (i32 (f_forecast v).1).toInt64 from hz z]
    refine Ev.iload dL_law_867 rfl ?_
    refine Ev.i2l dL_law_869 rfl ?_
    refine Ev.lcmp dL_law_870 ?_
    rw [lcmp_s]
    refine Ei.if_eq_t (tgt := 876) dL_law_871 (by decide) ⟨by decide, by decide⟩ rfl ?_
    refine Ev.goto (tgt := 2228) dL_law_876 (by decide) ?_
    exact Ev.fgt (ls' := lsL X (A 13 0) m0 oL oD i) ⟨rfl, ⟨rfl, ⟨rfl, ⟨rfl, ⟨rfl, ⟨rfl, trivial⟩⟩⟩⟩⟩⟩ fin
  · refine Ei.if_ne_t (tgt := 876) dL_law_861 (by decide) (show R32 ((f_forecast v).2 0 0) from ⟨by omega, by omega⟩) z ?_
    refine Ev.goto (tgt := 2228) dL_law_876 (by decide) ?_
    exact Ev.fgt (ls' := lsL X (A 13 0) m0 oL oD i) ⟨rfl, ⟨rfl, ⟨rfl, ⟨rfl, ⟨rfl, ⟨rfl, trivial⟩⟩⟩⟩⟩⟩ fin
theorem c_bestForecast {X : Cx} {σ : Hp} {A : Nat → Int → Nat} {c : Cs} {B : Int → Nat} {m0 oL oD : Nat} {v : Vw} {T E i : Int} (hN : KN X) (hL : LW X σ A c B m0 oL oD v) (hV : INV c v) (hI : IM v T E) (hT : T + 31 ≤ 20000) (hE : E + 102300 ≤ 1000000000) (hi : 0 ≤ i) (hi3 : i + 3 < X.sL) (hs : X.sL ≤ 2048) :
    ∃ τ A' B', (LW X τ A' (g_X10_bestForecast c).2 B' m0 oL oD (f_bestForecast v).2 ∧ INV (g_X10_bestForecast c).2 (f_bestForecast v).2 ∧ IM (f_bestForecast v).2 (T + 31) (E + 102300) ∧ A' 13 0 = A 13 0) ∧ ∀ (o : Rs) (τf : Hp), Ev X m_L_law 30 2228 (lsL X (A 13 0) m0 oL oD i) [] τ o τf → Ev X m_L_law 30 879 (lsL X (A 13 0) m0 oL oD i) [] σ o τf := by
  have hT0 := hI.1
  have hI2 : IM v (T + 31) E := hI.mono (by omega) (Int.le_refl _) (by omega) (by omega)
  obtain ⟨τ, A2, B2, hC, L1, hV2, e13, hz⟩ := w_bestForecast hN hL hV hI2
  have I3 : IM (f_bestForecast v).2 (T + 31) (E + 102300) := (i_bestForecast hI2).mono (Int.le_refl _) (by omega) (by omega) (by omega)
  have t0 : 0 ≤ (f_bestForecast v).2 0 0 ∧ (f_bestForecast v).2 0 0 ≤ 4 := I3.2 0 0
  refine ⟨Hm τ m0 (f_bestForecast v).2, A2, B2, ⟨L1.mod _, hV2, I3, e13⟩, fun o τf fin => ?_⟩
  refine Ev.aload_n (i := 1) dL_law_879 rfl rfl ?_
  refine Ev.aload_n (i := 3) dL_law_880 rfl rfl ?_
  refine Ev.callSH (As := [_, _]) (v := some (.int (i32 ((f_bestForecast v).2 0 0)))) k_L_bestForecast (tb4 (i := 14) rfl) ki_L_bestForecast dL_law_881 rfl rfl (by decide) (by decide) hC ?_
  refine Ev.istore dL_law_884 (by decide) ?_
  refine Ev.hp L1.2.1.2 ?_
  refine Ev.aload_n (i := 2) dL_law_886 rfl rfl ?_
  refine Em.cv1 (As := []) L1.2.1.1 k_X11_bestForecast (tb7 (i := 213) rfl) ki_X11_bestForecast kv_X11_bestForecast dL_law_887 rfl rfl (by decide) (by decide) (s_X11_bestForecast L1.2.1.1 hI2) ?_
  refine Ev.istore dL_law_890 (by decide) ?_
  refine Ev.aload_n (i := 2) dL_law_892 rfl rfl ?_
  refine Em.cv1 (As := []) L1.2.1.1 k_X11_thrown (tb7 (i := 114) rfl) ki_X11_thrown kv_X11_thrown dL_law_893 rfl rfl (by decide) (by decide) (s_X11_thrown L1.2.1.1 I3) ?_
  refine Ev.iload dL_law_896 rfl ?_
  refine Ei.icmp_eq_t (tgt := 903) dL_law_898 (by decide) (show R32 ((f_bestForecast v).2 0 0) from ⟨by omega, by omega⟩) (show R32 ((f_bestForecast v).2 0 0) from ⟨by omega, by omega⟩) rfl ?_
  refine Ev.iload dL_law_903 rfl ?_
  by_cases z : (f_bestForecast v).2 0 0 = 0
  · refine Ei.if_ne_f (tgt := 920) dL_law_905 (by decide) (show R32 ((f_bestForecast v).2 0 0) from ⟨by omega, by omega⟩) (fun q => q z) ?_
    refine Ev.aload_n (i := 3) dL_law_908 rfl rfl ?_
    refine Ei.const dL_law_909 ?_
    refine Ev.lald L1.2.2.1.1 (vin0 L1.2.2.1.2) dL_law_910 ?_
    rw [clamp0, show (Hm τ m0 (f_bestForecast v).2).lv oL 0 = (i32 (f_bestForecast v).1).toInt64 from hz z]
    refine Ev.iload dL_law_911 rfl ?_
    refine Ev.i2l dL_law_913 rfl ?_
    refine Ev.lcmp dL_law_914 ?_
    rw [lcmp_s]
    refine Ei.if_eq_t (tgt := 920) dL_law_915 (by decide) ⟨by decide, by decide⟩ rfl ?_
    refine Ev.goto (tgt := 2228) dL_law_920 (by decide) ?_
    exact Ev.fgt (ls' := lsL X (A 13 0) m0 oL oD i) ⟨rfl, ⟨rfl, ⟨rfl, ⟨rfl, ⟨rfl, ⟨rfl, trivial⟩⟩⟩⟩⟩⟩ fin
  · refine Ei.if_ne_t (tgt := 920) dL_law_905 (by decide) (show R32 ((f_bestForecast v).2 0 0) from ⟨by omega, by omega⟩) z ?_
    refine Ev.goto (tgt := 2228) dL_law_920 (by decide) ?_
    exact Ev.fgt (ls' := lsL X (A 13 0) m0 oL oD i) ⟨rfl, ⟨rfl, ⟨rfl, ⟨rfl, ⟨rfl, ⟨rfl, trivial⟩⟩⟩⟩⟩⟩ fin
theorem c_bestForecastByTrying {X : Cx} {σ : Hp} {A : Nat → Int → Nat} {c : Cs} {B : Int → Nat} {m0 oL oD : Nat} {v : Vw} {T E i : Int} (hN : KN X) (hL : LW X σ A c B m0 oL oD v) (hV : INV c v) (hI : IM v T E) (hT : T + 31 ≤ 20000) (hE : E + 102300 ≤ 1000000000) (hi : 0 ≤ i) (hi3 : i + 3 < X.sL) (hs : X.sL ≤ 2048) :
    ∃ τ A' B', (LW X τ A' (g_X10_bestForecastByTrying c).2 B' m0 oL oD (f_bestForecastByTrying v).2 ∧ INV (g_X10_bestForecastByTrying c).2 (f_bestForecastByTrying v).2 ∧ IM (f_bestForecastByTrying v).2 (T + 31) (E + 102300) ∧ A' 13 0 = A 13 0) ∧ ∀ (o : Rs) (τf : Hp), Ev X m_L_law 30 2228 (lsL X (A 13 0) m0 oL oD i) [] τ o τf → Ev X m_L_law 30 923 (lsL X (A 13 0) m0 oL oD i) [] σ o τf := by
  have hT0 := hI.1
  have hI2 : IM v (T + 31) E := hI.mono (by omega) (Int.le_refl _) (by omega) (by omega)
  obtain ⟨τ, A2, B2, hC, L1, hV2, e13, hz⟩ := w_bestForecastByTrying hN hL hV hI2
  have I3 : IM (f_bestForecastByTrying v).2 (T + 31) (E + 102300) := (i_bestForecastByTrying hI2).mono (Int.le_refl _) (by omega) (by omega) (by omega)
  have t0 : 0 ≤ (f_bestForecastByTrying v).2 0 0 ∧ (f_bestForecastByTrying v).2 0 0 ≤ 4 := I3.2 0 0
  refine ⟨Hm τ m0 (f_bestForecastByTrying v).2, A2, B2, ⟨L1.mod _, hV2, I3, e13⟩, fun o τf fin => ?_⟩
  refine Ev.aload_n (i := 1) dL_law_923 rfl rfl ?_
  refine Ev.aload_n (i := 3) dL_law_924 rfl rfl ?_
  refine Ev.callSH (As := [_, _]) (v := some (.int (i32 ((f_bestForecastByTrying v).2 0 0)))) k_L_bestForecastByTrying (tb5 (i := 66) rfl) ki_L_bestForecastByTrying dL_law_925 rfl rfl (by decide) (by decide) hC ?_
  refine Ev.istore dL_law_928 (by decide) ?_
  refine Ev.hp L1.2.1.2 ?_
  refine Ev.aload_n (i := 2) dL_law_930 rfl rfl ?_
  refine Em.cv1 (As := []) L1.2.1.1 k_X11_bestForecastByTrying (tb7 (i := 230) rfl) ki_X11_bestForecastByTrying kv_X11_bestForecastByTrying dL_law_931 rfl rfl (by decide) (by decide) (s_X11_bestForecastByTrying L1.2.1.1 hI2) ?_
  refine Ev.istore dL_law_934 (by decide) ?_
  refine Ev.aload_n (i := 2) dL_law_936 rfl rfl ?_
  refine Em.cv1 (As := []) L1.2.1.1 k_X11_thrown (tb7 (i := 114) rfl) ki_X11_thrown kv_X11_thrown dL_law_937 rfl rfl (by decide) (by decide) (s_X11_thrown L1.2.1.1 I3) ?_
  refine Ev.iload dL_law_940 rfl ?_
  refine Ei.icmp_eq_t (tgt := 947) dL_law_942 (by decide) (show R32 ((f_bestForecastByTrying v).2 0 0) from ⟨by omega, by omega⟩) (show R32 ((f_bestForecastByTrying v).2 0 0) from ⟨by omega, by omega⟩) rfl ?_
  refine Ev.iload dL_law_947 rfl ?_
  by_cases z : (f_bestForecastByTrying v).2 0 0 = 0
  · refine Ei.if_ne_f (tgt := 964) dL_law_949 (by decide) (show R32 ((f_bestForecastByTrying v).2 0 0) from ⟨by omega, by omega⟩) (fun q => q z) ?_
    refine Ev.aload_n (i := 3) dL_law_952 rfl rfl ?_
    refine Ei.const dL_law_953 ?_
    refine Ev.lald L1.2.2.1.1 (vin0 L1.2.2.1.2) dL_law_954 ?_
    rw [clamp0, show (Hm τ m0 (f_bestForecastByTrying v).2).lv oL 0 = (i32 (f_bestForecastByTrying v).1).toInt64 from hz z]
    refine Ev.iload dL_law_955 rfl ?_
    refine Ev.i2l dL_law_957 rfl ?_
    refine Ev.lcmp dL_law_958 ?_
    rw [lcmp_s]
    refine Ei.if_eq_t (tgt := 964) dL_law_959 (by decide) ⟨by decide, by decide⟩ rfl ?_
    refine Ev.goto (tgt := 2228) dL_law_964 (by decide) ?_
    exact Ev.fgt (ls' := lsL X (A 13 0) m0 oL oD i) ⟨rfl, ⟨rfl, ⟨rfl, ⟨rfl, ⟨rfl, ⟨rfl, trivial⟩⟩⟩⟩⟩⟩ fin
  · refine Ei.if_ne_t (tgt := 964) dL_law_949 (by decide) (show R32 ((f_bestForecastByTrying v).2 0 0) from ⟨by omega, by omega⟩) z ?_
    refine Ev.goto (tgt := 2228) dL_law_964 (by decide) ?_
    exact Ev.fgt (ls' := lsL X (A 13 0) m0 oL oD i) ⟨rfl, ⟨rfl, ⟨rfl, ⟨rfl, ⟨rfl, ⟨rfl, trivial⟩⟩⟩⟩⟩⟩ fin
theorem c_improve {X : Cx} {σ : Hp} {A : Nat → Int → Nat} {c : Cs} {B : Int → Nat} {m0 oL oD : Nat} {v : Vw} {T E i : Int} (hN : KN X) (hL : LW X σ A c B m0 oL oD v) (hV : INV c v) (hI : IM v T E) (hT : T + 31 ≤ 20000) (hE : E + 102300 ≤ 1000000000) (hi : 0 ≤ i) (hi3 : i + 3 < X.sL) (hs : X.sL ≤ 2048) :
    ∃ τ A' B', (LW X τ A' (g_X10_improve c).2 B' m0 oL oD (f_improve v).2 ∧ INV (g_X10_improve c).2 (f_improve v).2 ∧ IM (f_improve v).2 (T + 31) (E + 102300) ∧ A' 13 0 = A 13 0) ∧ ∀ (o : Rs) (τf : Hp), Ev X m_L_law 30 2228 (lsL X (A 13 0) m0 oL oD i) [] τ o τf → Ev X m_L_law 30 967 (lsL X (A 13 0) m0 oL oD i) [] σ o τf := by
  have hT0 := hI.1
  have hI2 : IM v (T + 31) E := hI.mono (by omega) (Int.le_refl _) (by omega) (by omega)
  obtain ⟨τ, A2, B2, hC, L1, hV2, e13, hz⟩ := w_improve hN hL hV hI2
  have I3 : IM (f_improve v).2 (T + 31) (E + 102300) := (i_improve hI2).mono (Int.le_refl _) (by omega) (by omega) (by omega)
  have t0 : 0 ≤ (f_improve v).2 0 0 ∧ (f_improve v).2 0 0 ≤ 4 := I3.2 0 0
  refine ⟨Hm τ m0 (f_improve v).2, A2, B2, ⟨L1.mod _, hV2, I3, e13⟩, fun o τf fin => ?_⟩
  refine Ev.aload_n (i := 1) dL_law_967 rfl rfl ?_
  refine Ev.aload_n (i := 3) dL_law_968 rfl rfl ?_
  refine Ev.callSH (As := [_, _]) (v := some (.int (i32 ((f_improve v).2 0 0)))) k_L_improve (tb5 (i := 93) rfl) ki_L_improve dL_law_969 rfl rfl (by decide) (by decide) hC ?_
  refine Ev.istore dL_law_972 (by decide) ?_
  refine Ev.hp L1.2.1.2 ?_
  refine Ev.aload_n (i := 2) dL_law_974 rfl rfl ?_
  refine Em.cv1 (As := []) L1.2.1.1 k_X11_improve (tb7 (i := 235) rfl) ki_X11_improve kv_X11_improve dL_law_975 rfl rfl (by decide) (by decide) (s_X11_improve L1.2.1.1 hI2) ?_
  refine Ev.istore dL_law_978 (by decide) ?_
  refine Ev.aload_n (i := 2) dL_law_980 rfl rfl ?_
  refine Em.cv1 (As := []) L1.2.1.1 k_X11_thrown (tb7 (i := 114) rfl) ki_X11_thrown kv_X11_thrown dL_law_981 rfl rfl (by decide) (by decide) (s_X11_thrown L1.2.1.1 I3) ?_
  refine Ev.iload dL_law_984 rfl ?_
  refine Ei.icmp_eq_t (tgt := 991) dL_law_986 (by decide) (show R32 ((f_improve v).2 0 0) from ⟨by omega, by omega⟩) (show R32 ((f_improve v).2 0 0) from ⟨by omega, by omega⟩) rfl ?_
  refine Ev.iload dL_law_991 rfl ?_
  by_cases z : (f_improve v).2 0 0 = 0
  · refine Ei.if_ne_f (tgt := 1008) dL_law_993 (by decide) (show R32 ((f_improve v).2 0 0) from ⟨by omega, by omega⟩) (fun q => q z) ?_
    refine Ev.aload_n (i := 3) dL_law_996 rfl rfl ?_
    refine Ei.const dL_law_997 ?_
    refine Ev.lald L1.2.2.1.1 (vin0 L1.2.2.1.2) dL_law_998 ?_
    rw [clamp0, show (Hm τ m0 (f_improve v).2).lv oL 0 = (i32 (f_improve v).1).toInt64 from hz z]
    refine Ev.iload dL_law_999 rfl ?_
    refine Ev.i2l dL_law_1001 rfl ?_
    refine Ev.lcmp dL_law_1002 ?_
    rw [lcmp_s]
    refine Ei.if_eq_t (tgt := 1008) dL_law_1003 (by decide) ⟨by decide, by decide⟩ rfl ?_
    refine Ev.goto (tgt := 2228) dL_law_1008 (by decide) ?_
    exact Ev.fgt (ls' := lsL X (A 13 0) m0 oL oD i) ⟨rfl, ⟨rfl, ⟨rfl, ⟨rfl, ⟨rfl, ⟨rfl, trivial⟩⟩⟩⟩⟩⟩ fin
  · refine Ei.if_ne_t (tgt := 1008) dL_law_993 (by decide) (show R32 ((f_improve v).2 0 0) from ⟨by omega, by omega⟩) z ?_
    refine Ev.goto (tgt := 2228) dL_law_1008 (by decide) ?_
    exact Ev.fgt (ls' := lsL X (A 13 0) m0 oL oD i) ⟨rfl, ⟨rfl, ⟨rfl, ⟨rfl, ⟨rfl, ⟨rfl, trivial⟩⟩⟩⟩⟩⟩ fin
theorem c_order {X : Cx} {σ : Hp} {A : Nat → Int → Nat} {c : Cs} {B : Int → Nat} {m0 oL oD : Nat} {v : Vw} {T E i : Int} (hN : KN X) (hL : LW X σ A c B m0 oL oD v) (hV : INV c v) (hI : IM v T E) (hT : T + 31 ≤ 20000) (hE : E + 102300 ≤ 1000000000) (hi : 0 ≤ i) (hi3 : i + 3 < X.sL) (hs : X.sL ≤ 2048) :
    ∃ τ A' B', (LW X τ A' (g_X10_order (sx X i 1) (sx X i 2) (sx X i 3) c).2 B' m0 oL oD (f_order (sx X i 1) (sx X i 2) (sx X i 3) v).2 ∧ INV (g_X10_order (sx X i 1) (sx X i 2) (sx X i 3) c).2 (f_order (sx X i 1) (sx X i 2) (sx X i 3) v).2 ∧ IM (f_order (sx X i 1) (sx X i 2) (sx X i 3) v).2 (T + 31) (E + 102300) ∧ A' 13 0 = A 13 0) ∧ ∀ (o : Rs) (τf : Hp), Ev X m_L_law 30 2228 (lsL X (A 13 0) m0 oL oD i) [] τ o τf → Ev X m_L_law 30 1011 (lsL X (A 13 0) m0 oL oD i) [] σ o τf := by
  have hT0 := hI.1
  have hI2 : IM v (T + 31) E := hI.mono (by omega) (Int.le_refl _) (by omega) (by omega)
  obtain ⟨τ, A2, B2, hC, L1, hV2, e13, hz⟩ := w_order hN hL hV hI2 (sx_r X i 1) (sx_r X i 2) (sx_r X i 3)
  have I3 : IM (f_order (sx X i 1) (sx X i 2) (sx X i 3) v).2 (T + 31) (E + 102300) := (i_order hI2 (sx_r X i 1) (sx_r X i 2) (sx_r X i 3) (hV.2.2.1.2.2.2.2.2 _ (Int.le_refl _)).1).mono (Int.le_refl _) (by omega) (by omega) (by omega)
  have t0 : 0 ≤ (f_order (sx X i 1) (sx X i 2) (sx X i 3) v).2 0 0 ∧ (f_order (sx X i 1) (sx X i 2) (sx X i 3) v).2 0 0 ≤ 4 := I3.2 0 0
  refine ⟨Hm τ m0 (f_order (sx X i 1) (sx X i 2) (sx X i 3) v).2, A2, B2, ⟨L1.mod _, hV2, I3, e13⟩, fun o τf fin => ?_⟩
  refine Ev.aload_n (i := 1) dL_law_1011 rfl rfl ?_
  refine Ev.aload_n (i := 0) dL_law_1012 rfl rfl ?_
  refine Ev.iload dL_law_1013 rfl ?_
  refine Ei.const dL_law_1015 ?_
  refine Ei.add dL_law_1016 ?_
  refine Ev.rdS (by omega) (by omega) hs dL_law_1017 ?_
  refine Ev.aload_n (i := 0) dL_law_1018 rfl rfl ?_
  refine Ev.iload dL_law_1019 rfl ?_
  refine Ei.const dL_law_1021 ?_
  refine Ei.add dL_law_1022 ?_
  refine Ev.rdS (by omega) (by omega) hs dL_law_1023 ?_
  refine Ev.aload_n (i := 0) dL_law_1024 rfl rfl ?_
  refine Ev.iload dL_law_1025 rfl ?_
  refine Ei.const dL_law_1027 ?_
  refine Ei.add dL_law_1028 ?_
  refine Ev.rdS (by omega) (by omega) hs dL_law_1029 ?_
  refine Ev.aload_n (i := 3) dL_law_1030 rfl rfl ?_
  refine Ev.callSH (As := [_, _, _, _, _]) (v := some (.int (i32 ((f_order (sx X i 1) (sx X i 2) (sx X i 3) v).2 0 0)))) k_L_order (tb5 (i := 101) rfl) ki_L_order dL_law_1031 rfl rfl (by decide) (by decide) hC ?_
  refine Ev.istore dL_law_1034 (by decide) ?_
  refine Ev.hp L1.2.1.2 ?_
  refine Ev.aload_n (i := 2) dL_law_1036 rfl rfl ?_
  refine Ev.aload_n (i := 0) dL_law_1037 rfl rfl ?_
  refine Ev.iload dL_law_1038 rfl ?_
  refine Ei.const dL_law_1040 ?_
  refine Ei.add dL_law_1041 ?_
  refine Ev.rdS (by omega) (by omega) hs dL_law_1042 ?_
  refine Ev.aload_n (i := 0) dL_law_1043 rfl rfl ?_
  refine Ev.iload dL_law_1044 rfl ?_
  refine Ei.const dL_law_1046 ?_
  refine Ei.add dL_law_1047 ?_
  refine Ev.rdS (by omega) (by omega) hs dL_law_1048 ?_
  refine Ev.aload_n (i := 0) dL_law_1049 rfl rfl ?_
  refine Ev.iload dL_law_1050 rfl ?_
  refine Ei.const dL_law_1052 ?_
  refine Ei.add dL_law_1053 ?_
  refine Ev.rdS (by omega) (by omega) hs dL_law_1054 ?_
  refine Em.cv1 (As := [_, _, _]) L1.2.1.1 k_X11_order (tb7 (i := 239) rfl) ki_X11_order kv_X11_order dL_law_1055 rfl rfl (by decide) (by decide) (s_X11_order L1.2.1.1 hI2 (sx_r X i 1) (sx_r X i 2) (sx_r X i 3) (hV.2.2.1.2.2.2.2.2 _ (Int.le_refl _)).1) ?_
  refine Ev.istore dL_law_1058 (by decide) ?_
  refine Ev.aload_n (i := 2) dL_law_1060 rfl rfl ?_
  refine Em.cv1 (As := []) L1.2.1.1 k_X11_thrown (tb7 (i := 114) rfl) ki_X11_thrown kv_X11_thrown dL_law_1061 rfl rfl (by decide) (by decide) (s_X11_thrown L1.2.1.1 I3) ?_
  refine Ev.iload dL_law_1064 rfl ?_
  refine Ei.icmp_eq_t (tgt := 1071) dL_law_1066 (by decide) (show R32 ((f_order (sx X i 1) (sx X i 2) (sx X i 3) v).2 0 0) from ⟨by omega, by omega⟩) (show R32 ((f_order (sx X i 1) (sx X i 2) (sx X i 3) v).2 0 0) from ⟨by omega, by omega⟩) rfl ?_
  refine Ev.iload dL_law_1071 rfl ?_
  by_cases z : (f_order (sx X i 1) (sx X i 2) (sx X i 3) v).2 0 0 = 0
  · refine Ei.if_ne_f (tgt := 1088) dL_law_1073 (by decide) (show R32 ((f_order (sx X i 1) (sx X i 2) (sx X i 3) v).2 0 0) from ⟨by omega, by omega⟩) (fun q => q z) ?_
    refine Ev.aload_n (i := 3) dL_law_1076 rfl rfl ?_
    refine Ei.const dL_law_1077 ?_
    refine Ev.lald L1.2.2.1.1 (vin0 L1.2.2.1.2) dL_law_1078 ?_
    rw [clamp0, show (Hm τ m0 (f_order (sx X i 1) (sx X i 2) (sx X i 3) v).2).lv oL 0 = (i32 (f_order (sx X i 1) (sx X i 2) (sx X i 3) v).1).toInt64 from hz z]
    refine Ev.iload dL_law_1079 rfl ?_
    refine Ev.i2l dL_law_1081 rfl ?_
    refine Ev.lcmp dL_law_1082 ?_
    rw [lcmp_s]
    refine Ei.if_eq_t (tgt := 1088) dL_law_1083 (by decide) ⟨by decide, by decide⟩ rfl ?_
    refine Ev.goto (tgt := 2228) dL_law_1088 (by decide) ?_
    exact Ev.fgt (ls' := lsL X (A 13 0) m0 oL oD i) ⟨rfl, ⟨rfl, ⟨rfl, ⟨rfl, ⟨rfl, ⟨rfl, trivial⟩⟩⟩⟩⟩⟩ fin
  · refine Ei.if_ne_t (tgt := 1088) dL_law_1073 (by decide) (show R32 ((f_order (sx X i 1) (sx X i 2) (sx X i 3) v).2 0 0) from ⟨by omega, by omega⟩) z ?_
    refine Ev.goto (tgt := 2228) dL_law_1088 (by decide) ?_
    exact Ev.fgt (ls' := lsL X (A 13 0) m0 oL oD i) ⟨rfl, ⟨rfl, ⟨rfl, ⟨rfl, ⟨rfl, ⟨rfl, trivial⟩⟩⟩⟩⟩⟩ fin
theorem c_blend {X : Cx} {σ : Hp} {A : Nat → Int → Nat} {c : Cs} {B : Int → Nat} {m0 oL oD : Nat} {v : Vw} {T E i : Int} (hN : KN X) (hL : LW X σ A c B m0 oL oD v) (hV : INV c v) (hI : IM v T E) (hT : T + 31 ≤ 20000) (hE : E + 102300 ≤ 1000000000) (hi : 0 ≤ i) (hi3 : i + 3 < X.sL) (hs : X.sL ≤ 2048) :
    ∃ τ A' B', (LW X τ A' (g_X10_blend (sx X i 1) (sx X i 2) (sx X i 3) c).2 B' m0 oL oD (f_blend (sx X i 1) (sx X i 2) (sx X i 3) v).2 ∧ INV (g_X10_blend (sx X i 1) (sx X i 2) (sx X i 3) c).2 (f_blend (sx X i 1) (sx X i 2) (sx X i 3) v).2 ∧ IM (f_blend (sx X i 1) (sx X i 2) (sx X i 3) v).2 (T + 31) (E + 102300) ∧ A' 13 0 = A 13 0) ∧ ∀ (o : Rs) (τf : Hp), Ev X m_L_law 30 2228 (lsL X (A 13 0) m0 oL oD i) [] τ o τf → Ev X m_L_law 30 1091 (lsL X (A 13 0) m0 oL oD i) [] σ o τf := by
  have hT0 := hI.1
  have hI2 : IM v (T + 31) E := hI.mono (by omega) (Int.le_refl _) (by omega) (by omega)
  obtain ⟨τ, A2, B2, hC, L1, hV2, e13, hz⟩ := w_blend hN hL hV hI2 (sx_r X i 1) (sx_r X i 2) (sx_r X i 3)
  have I3 : IM (f_blend (sx X i 1) (sx X i 2) (sx X i 3) v).2 (T + 31) (E + 102300) := (i_blend hI2 (sx_r X i 1) (sx_r X i 2) (sx_r X i 3)).mono (Int.le_refl _) (by omega) (by omega) (by omega)
  have t0 : 0 ≤ (f_blend (sx X i 1) (sx X i 2) (sx X i 3) v).2 0 0 ∧ (f_blend (sx X i 1) (sx X i 2) (sx X i 3) v).2 0 0 ≤ 4 := I3.2 0 0
  refine ⟨Hm τ m0 (f_blend (sx X i 1) (sx X i 2) (sx X i 3) v).2, A2, B2, ⟨L1.mod _, hV2, I3, e13⟩, fun o τf fin => ?_⟩
  refine Ev.aload_n (i := 1) dL_law_1091 rfl rfl ?_
  refine Ev.aload_n (i := 0) dL_law_1092 rfl rfl ?_
  refine Ev.iload dL_law_1093 rfl ?_
  refine Ei.const dL_law_1095 ?_
  refine Ei.add dL_law_1096 ?_
  refine Ev.rdS (by omega) (by omega) hs dL_law_1097 ?_
  refine Ev.aload_n (i := 0) dL_law_1098 rfl rfl ?_
  refine Ev.iload dL_law_1099 rfl ?_
  refine Ei.const dL_law_1101 ?_
  refine Ei.add dL_law_1102 ?_
  refine Ev.rdS (by omega) (by omega) hs dL_law_1103 ?_
  refine Ev.aload_n (i := 0) dL_law_1104 rfl rfl ?_
  refine Ev.iload dL_law_1105 rfl ?_
  refine Ei.const dL_law_1107 ?_
  refine Ei.add dL_law_1108 ?_
  refine Ev.rdS (by omega) (by omega) hs dL_law_1109 ?_
  refine Ev.aload_n (i := 3) dL_law_1110 rfl rfl ?_
  refine Ev.callSH (As := [_, _, _, _, _]) (v := some (.int (i32 ((f_blend (sx X i 1) (sx X i 2) (sx X i 3) v).2 0 0)))) k_L_blend (tb5 (i := 162) rfl) ki_L_blend dL_law_1111 rfl rfl (by decide) (by decide) hC ?_
  refine Ev.istore dL_law_1114 (by decide) ?_
  refine Ev.hp L1.2.1.2 ?_
  refine Ev.aload_n (i := 2) dL_law_1116 rfl rfl ?_
  refine Ev.aload_n (i := 0) dL_law_1117 rfl rfl ?_
  refine Ev.iload dL_law_1118 rfl ?_
  refine Ei.const dL_law_1120 ?_
  refine Ei.add dL_law_1121 ?_
  refine Ev.rdS (by omega) (by omega) hs dL_law_1122 ?_
  refine Ev.aload_n (i := 0) dL_law_1123 rfl rfl ?_
  refine Ev.iload dL_law_1124 rfl ?_
  refine Ei.const dL_law_1126 ?_
  refine Ei.add dL_law_1127 ?_
  refine Ev.rdS (by omega) (by omega) hs dL_law_1128 ?_
  refine Ev.aload_n (i := 0) dL_law_1129 rfl rfl ?_
  refine Ev.iload dL_law_1130 rfl ?_
  refine Ei.const dL_law_1132 ?_
  refine Ei.add dL_law_1133 ?_
  refine Ev.rdS (by omega) (by omega) hs dL_law_1134 ?_
  refine Em.cv1 (As := [_, _, _]) L1.2.1.1 k_X11_blend (tb8 (i := 7) rfl) ki_X11_blend kv_X11_blend dL_law_1135 rfl rfl (by decide) (by decide) (s_X11_blend L1.2.1.1 hI2 (sx_r X i 1) (sx_r X i 2) (sx_r X i 3)) ?_
  refine Ev.istore dL_law_1138 (by decide) ?_
  refine Ev.aload_n (i := 2) dL_law_1140 rfl rfl ?_
  refine Em.cv1 (As := []) L1.2.1.1 k_X11_thrown (tb7 (i := 114) rfl) ki_X11_thrown kv_X11_thrown dL_law_1141 rfl rfl (by decide) (by decide) (s_X11_thrown L1.2.1.1 I3) ?_
  refine Ev.iload dL_law_1144 rfl ?_
  refine Ei.icmp_eq_t (tgt := 1151) dL_law_1146 (by decide) (show R32 ((f_blend (sx X i 1) (sx X i 2) (sx X i 3) v).2 0 0) from ⟨by omega, by omega⟩) (show R32 ((f_blend (sx X i 1) (sx X i 2) (sx X i 3) v).2 0 0) from ⟨by omega, by omega⟩) rfl ?_
  refine Ev.iload dL_law_1151 rfl ?_
  by_cases z : (f_blend (sx X i 1) (sx X i 2) (sx X i 3) v).2 0 0 = 0
  · refine Ei.if_ne_f (tgt := 1168) dL_law_1153 (by decide) (show R32 ((f_blend (sx X i 1) (sx X i 2) (sx X i 3) v).2 0 0) from ⟨by omega, by omega⟩) (fun q => q z) ?_
    refine Ev.aload_n (i := 3) dL_law_1156 rfl rfl ?_
    refine Ei.const dL_law_1157 ?_
    refine Ev.lald L1.2.2.1.1 (vin0 L1.2.2.1.2) dL_law_1158 ?_
    rw [clamp0, show (Hm τ m0 (f_blend (sx X i 1) (sx X i 2) (sx X i 3) v).2).lv oL 0 = (i32 (f_blend (sx X i 1) (sx X i 2) (sx X i 3) v).1).toInt64 from hz z]
    refine Ev.iload dL_law_1159 rfl ?_
    refine Ev.i2l dL_law_1161 rfl ?_
    refine Ev.lcmp dL_law_1162 ?_
    rw [lcmp_s]
    refine Ei.if_eq_t (tgt := 1168) dL_law_1163 (by decide) ⟨by decide, by decide⟩ rfl ?_
    refine Ev.goto (tgt := 2228) dL_law_1168 (by decide) ?_
    exact Ev.fgt (ls' := lsL X (A 13 0) m0 oL oD i) ⟨rfl, ⟨rfl, ⟨rfl, ⟨rfl, ⟨rfl, ⟨rfl, trivial⟩⟩⟩⟩⟩⟩ fin
  · refine Ei.if_ne_t (tgt := 1168) dL_law_1153 (by decide) (show R32 ((f_blend (sx X i 1) (sx X i 2) (sx X i 3) v).2 0 0) from ⟨by omega, by omega⟩) z ?_
    refine Ev.goto (tgt := 2228) dL_law_1168 (by decide) ?_
    exact Ev.fgt (ls' := lsL X (A 13 0) m0 oL oD i) ⟨rfl, ⟨rfl, ⟨rfl, ⟨rfl, ⟨rfl, ⟨rfl, trivial⟩⟩⟩⟩⟩⟩ fin
theorem c_cancel {X : Cx} {σ : Hp} {A : Nat → Int → Nat} {c : Cs} {B : Int → Nat} {m0 oL oD : Nat} {v : Vw} {T E i : Int} (hN : KN X) (hL : LW X σ A c B m0 oL oD v) (hV : INV c v) (hI : IM v T E) (hT : T + 31 ≤ 20000) (hE : E + 102300 ≤ 1000000000) (hi : 0 ≤ i) (hi3 : i + 3 < X.sL) (hs : X.sL ≤ 2048) :
    ∃ τ A' B', (LW X τ A' (g_X10_cancel (sx X i 1) c).2 B' m0 oL oD (f_cancel (sx X i 1) v).2 ∧ INV (g_X10_cancel (sx X i 1) c).2 (f_cancel (sx X i 1) v).2 ∧ IM (f_cancel (sx X i 1) v).2 (T + 31) (E + 102300) ∧ A' 13 0 = A 13 0) ∧ ∀ (o : Rs) (τf : Hp), Ev X m_L_law 30 2228 (lsL X (A 13 0) m0 oL oD i) [] τ o τf → Ev X m_L_law 30 1171 (lsL X (A 13 0) m0 oL oD i) [] σ o τf := by
  have hT0 := hI.1
  have hI2 : IM v (T + 31) E := hI.mono (by omega) (Int.le_refl _) (by omega) (by omega)
  obtain ⟨τ, A2, B2, hC, L1, hV2, e13, hz⟩ := w_cancel hN hL hV hI2 (sx_r X i 1)
  have I3 : IM (f_cancel (sx X i 1) v).2 (T + 31) (E + 102300) := (i_cancel hI2 (sx_r X i 1)).mono (Int.le_refl _) (by omega) (by omega) (by omega)
  have t0 : 0 ≤ (f_cancel (sx X i 1) v).2 0 0 ∧ (f_cancel (sx X i 1) v).2 0 0 ≤ 4 := I3.2 0 0
  refine ⟨Hm τ m0 (f_cancel (sx X i 1) v).2, A2, B2, ⟨L1.mod _, hV2, I3, e13⟩, fun o τf fin => ?_⟩
  refine Ev.aload_n (i := 1) dL_law_1171 rfl rfl ?_
  refine Ev.aload_n (i := 0) dL_law_1172 rfl rfl ?_
  refine Ev.iload dL_law_1173 rfl ?_
  refine Ei.const dL_law_1175 ?_
  refine Ei.add dL_law_1176 ?_
  refine Ev.rdS (by omega) (by omega) hs dL_law_1177 ?_
  refine Ev.aload_n (i := 3) dL_law_1178 rfl rfl ?_
  refine Ev.callSH (As := [_, _, _]) (v := some (.int (i32 ((f_cancel (sx X i 1) v).2 0 0)))) k_L_cancel (tb5 (i := 176) rfl) ki_L_cancel dL_law_1179 rfl rfl (by decide) (by decide) hC ?_
  refine Ev.istore dL_law_1182 (by decide) ?_
  refine Ev.hp L1.2.1.2 ?_
  refine Ev.aload_n (i := 2) dL_law_1184 rfl rfl ?_
  refine Ev.aload_n (i := 0) dL_law_1185 rfl rfl ?_
  refine Ev.iload dL_law_1186 rfl ?_
  refine Ei.const dL_law_1188 ?_
  refine Ei.add dL_law_1189 ?_
  refine Ev.rdS (by omega) (by omega) hs dL_law_1190 ?_
  refine Em.cv1 (As := [_]) L1.2.1.1 k_X11_cancel (tb8 (i := 15) rfl) ki_X11_cancel kv_X11_cancel dL_law_1191 rfl rfl (by decide) (by decide) (s_X11_cancel L1.2.1.1 hI2 (sx_r X i 1)) ?_
  refine Ev.istore dL_law_1194 (by decide) ?_
  refine Ev.aload_n (i := 2) dL_law_1196 rfl rfl ?_
  refine Em.cv1 (As := []) L1.2.1.1 k_X11_thrown (tb7 (i := 114) rfl) ki_X11_thrown kv_X11_thrown dL_law_1197 rfl rfl (by decide) (by decide) (s_X11_thrown L1.2.1.1 I3) ?_
  refine Ev.iload dL_law_1200 rfl ?_
  refine Ei.icmp_eq_t (tgt := 1207) dL_law_1202 (by decide) (show R32 ((f_cancel (sx X i 1) v).2 0 0) from ⟨by omega, by omega⟩) (show R32 ((f_cancel (sx X i 1) v).2 0 0) from ⟨by omega, by omega⟩) rfl ?_
  refine Ev.iload dL_law_1207 rfl ?_
  by_cases z : (f_cancel (sx X i 1) v).2 0 0 = 0
  · refine Ei.if_ne_f (tgt := 1224) dL_law_1209 (by decide) (show R32 ((f_cancel (sx X i 1) v).2 0 0) from ⟨by omega, by omega⟩) (fun q => q z) ?_
    refine Ev.aload_n (i := 3) dL_law_1212 rfl rfl ?_
    refine Ei.const dL_law_1213 ?_
    refine Ev.lald L1.2.2.1.1 (vin0 L1.2.2.1.2) dL_law_1214 ?_
    rw [clamp0, show (Hm τ m0 (f_cancel (sx X i 1) v).2).lv oL 0 = (i32 (f_cancel (sx X i 1) v).1).toInt64 from hz z]
    refine Ev.iload dL_law_1215 rfl ?_
    refine Ev.i2l dL_law_1217 rfl ?_
    refine Ev.lcmp dL_law_1218 ?_
    rw [lcmp_s]
    refine Ei.if_eq_t (tgt := 1224) dL_law_1219 (by decide) ⟨by decide, by decide⟩ rfl ?_
    refine Ev.goto (tgt := 2228) dL_law_1224 (by decide) ?_
    exact Ev.fgt (ls' := lsL X (A 13 0) m0 oL oD i) ⟨rfl, ⟨rfl, ⟨rfl, ⟨rfl, ⟨rfl, ⟨rfl, trivial⟩⟩⟩⟩⟩⟩ fin
  · refine Ei.if_ne_t (tgt := 1224) dL_law_1209 (by decide) (show R32 ((f_cancel (sx X i 1) v).2 0 0) from ⟨by omega, by omega⟩) z ?_
    refine Ev.goto (tgt := 2228) dL_law_1224 (by decide) ?_
    exact Ev.fgt (ls' := lsL X (A 13 0) m0 oL oD i) ⟨rfl, ⟨rfl, ⟨rfl, ⟨rfl, ⟨rfl, ⟨rfl, trivial⟩⟩⟩⟩⟩⟩ fin
