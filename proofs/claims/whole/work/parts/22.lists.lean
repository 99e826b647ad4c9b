/-! ArrayList: pictures and contracts (written by wip/whole/mk22.py) -/
section ERULES
variable {X : Cx} {σ : Hp} {M : Mt} {d pc : Nat} {ls : List (Option Value)} {rest : List Value} {o : Rs} {τ : Hp}
theorem Er.gI {ci k ix a : Nat} {C : String} {T : u_T} {N : Nat} {ref : String} (x : Int32) (hx : σ.iv a k = x) (hr : vwCl[ci]? = some (C, T, N)) (h2 : 2 ≤ ci) (hk : k < N) (hw : Cond.fieldLink M.y.cls ix ref (T k).2.1 (T k).2.2.1 ∈ lw_tbl) (hs : ref = (T k).1 ∨ Cond.sameField ref (T k).1 (T k).2.1 (T k).2.2.1 ∈ lw_tbl) (hrf : isRf ci k = false) (hkd : σ.kd a = ci + 1) (d9 : decode M.cc pc = .ok (.getfield ix, 3)) (kk : Ev X M d (pc + 3) ls (.int x :: rest) σ o τ) : Ev X M d pc ls (va_rf (some a) :: rest) σ o τ := Ev.gI hr h2 hk hw hs hrf hkd d9 (by rw [hx]; exact kk)
theorem Er.gR {ci k ix a : Nat} {C : String} {T : u_T} {N : Nat} {ref : String} (x : Option Nat) (hx : σ.rv a k = x) (hr : vwCl[ci]? = some (C, T, N)) (h2 : 2 ≤ ci) (hk : k < N) (hw : Cond.fieldLink M.y.cls ix ref (T k).2.1 (T k).2.2.1 ∈ lw_tbl) (hs : ref = (T k).1 ∨ Cond.sameField ref (T k).1 (T k).2.1 (T k).2.2.1 ∈ lw_tbl) (hrf : isRf ci k = true) (hkd : σ.kd a = ci + 1) (d9 : decode M.cc pc = .ok (.getfield ix, 3)) (kk : Ev X M d (pc + 3) ls (va_rf x :: rest) σ o τ) : Ev X M d pc ls (va_rf (some a) :: rest) σ o τ := Ev.gR hr h2 hk hw hs hrf hkd d9 (by rw [hx]; exact kk)
theorem Er.aald {a : Nat} {z : Int} (x : Option Nat) (hx : σ.rv a z.toNat = x) (hkd : σ.kd a = 24) (h0 : 0 ≤ z) (hi : z < (σ.ln a : Nat)) (hn : σ.ln a ≤ 400) (d9 : decode M.cc pc = .ok (.aaload, 1)) (kk : Ev X M d (pc + 1) ls (va_rf x :: rest) σ o τ) : Ev X M d pc ls (.int (i32 z) :: va_rf (some a) :: rest) σ o τ :=
  Ev.aald hkd (i32_vin h0 hi (by omega)) d9 (by rw [i32_cl h0 ⟨by omega, by omega⟩, hx]; exact kk)
theorem Er.aast {a : Nat} {z : Int} {v : Option Nat} (hkd : σ.kd a = 24) (h0 : 0 ≤ z) (hi : z < (σ.ln a : Nat)) (hn : σ.ln a ≤ 400) (hv : ∀ y, v = some y → 3 ≤ σ.kd y ∧ σ.kd y ≤ 15) (d9 : decode M.cc pc = .ok (.aastore, 1)) (kk : Ev X M d (pc + 1) ls rest (σ.setR a z.toNat v) o τ) : Ev X M d pc ls (va_rf v :: .int (i32 z) :: va_rf (some a) :: rest) σ o τ :=
  Ev.aast hkd (i32_vin h0 hi (by omega)) hv d9 (by rw [i32_cl h0 ⟨by omega, by omega⟩]; exact kk)
theorem Er.alen {a : Nat} (hkd : σ.kd a = 24) (hn : σ.ln a ≤ 400) (d9 : decode M.cc pc = .ok (.arraylength, 1)) (kk : Ev X M d (pc + 1) ls (.int (i32 ((σ.ln a : Nat) : Int)) :: rest) σ o τ) : Ev X M d pc ls (va_rf (some a) :: rest) σ o τ :=
  Ev.alen (Or.inr (Or.inr hkd)) rfl d9 kk
theorem Ev.aretE {v : Option Nat} {ty : FieldType} (hr : M.rt = some ty) (ht : ty.isReference = true) (d9 : decode M.cc pc = .ok (.areturn, 1)) (ho : o = .inl (some (va_rf v))) (hτ : τ = σ) : Ev X M d pc ls [va_rf v] σ o τ := by
  subst ho hτ
  exact Ev.aret hr ht d9
theorem Er.max {ix : Nat} {x y : Int} (hx : R32 x) (hy : R32 y) (hw : Cond.methodLink M.y.cls ix Lib.Math.max.name ∈ lw_tbl) (hd : 1 ≤ d) (hsz : (rest.map fun v => v.category).sum ≤ 60) (d9 : decode M.cc pc = .ok (.invokestatic ix, 3)) (k : Ev X M d (pc + 3) ls (.int (i32 (if x < y then y else x)) :: rest) σ o τ) : Ev X M d pc ls (.int (i32 y) :: .int (i32 x) :: rest) σ o τ :=
  Ev.max hw hd hsz d9 (by
    have e : (if i32 x < i32 y then i32 y else i32 x) = i32 (if x < y then y else x) := by
      by_cases h : x < y
      · rw [if_pos h, if_pos ((i32_lt hx hy).mpr h)]
      · rw [if_neg h, if_neg (fun q => h ((i32_lt hx hy).mp q))]
    rw [e]
    exact k)
theorem Er.min {ix : Nat} {x y : Int} (hx : R32 x) (hy : R32 y) (hw : Cond.methodLink M.y.cls ix Lib.Math.min.name ∈ lw_tbl) (hd : 1 ≤ d) (hsz : (rest.map fun v => v.category).sum ≤ 60) (d9 : decode M.cc pc = .ok (.invokestatic ix, 3)) (k : Ev X M d (pc + 3) ls (.int (i32 (if y < x then y else x)) :: rest) σ o τ) : Ev X M d pc ls (.int (i32 y) :: .int (i32 x) :: rest) σ o τ :=
  Ev.min hw hd hsz d9 (by
    have e : (if i32 y < i32 x then i32 y else i32 x) = i32 (if y < x then y else x) := by
      by_cases h : y < x
      · rw [if_pos h, if_pos ((i32_lt hy hx).mpr h)]
      · rw [if_neg h, if_neg (fun q => h ((i32_lt hy hx).mp q))]
    rw [e]
    exact k)
end ERULES
/-- what is known lies between the start and the heap's end -/
def WF (X : Cx) (σ : Hp) : Prop := X.t0 < X.b0 ∧ X.b0 ≤ σ.sz ∧ ∀ a, σ.kd a ≠ 0 → X.b0 ≤ a ∧ a < σ.sz
/-- the list l holds the objects xs; its array is B (the shared empty one at first) -/
def LL (X : Cx) (σ : Hp) (l B : Nat) (xs : List Nat) : Prop :=
  σ.kd l = 3 ∧ σ.rv l 1 = some B ∧ σ.iv l 2 = i32 (xs.length : Int) ∧ xs.length ≤ 200 ∧ (∀ i x, xs[i]? = some x → σ.rv B i = some x) ∧
  ((B = X.t0 ∧ xs = []) ∨ (σ.kd B = 24 ∧ xs.length ≤ σ.ln B ∧ 1 ≤ σ.ln B ∧ σ.ln B ≤ 400 ∧ ∀ i y, i < σ.ln B → σ.rv B i = some y → 3 ≤ σ.kd y ∧ σ.kd y ≤ 15))
def cap (X : Cx) (σ : Hp) (B : Nat) : Nat := if B = X.t0 then 0 else σ.ln B
/-- all but the list l with its array B stays; B' is its array afterwards; what room it took -/
def Fr (X : Cx) (σ τ : Hp) (l B B' : Nat) : Prop :=
  (∀ a, σ.kd a ≠ 0 → τ.kd a = σ.kd a ∧ τ.ln a = σ.ln a) ∧
  (∀ a, σ.kd a ≠ 0 → a ≠ l → a ≠ B → τ.iv a = σ.iv a ∧ τ.rv a = σ.rv a ∧ τ.lv a = σ.lv a ∧ τ.dv a = σ.dv a) ∧
  (B' = B ∨ (B' = σ.sz ∧ τ.kd B' = 24)) ∧ σ.sz ≤ τ.sz ∧ WF X τ ∧
  τ.cl + cap X σ B ≤ σ.cl + cap X τ B' ∧ τ.sl + cap X σ B * cap X σ B ≤ σ.sl + cap X τ B' * cap X τ B' ∧ cap X σ B ≤ cap X τ B'
theorem Fr.rfl' {X : Cx} {σ : Hp} {l B : Nat} (h : WF X σ) : Fr X σ σ l B B := ⟨fun _ _ => ⟨rfl, rfl⟩, fun _ _ _ _ => ⟨rfl, rfl, rfl, rfl⟩, Or.inl rfl, Nat.le_refl _, h, Nat.le_refl _, Nat.le_refl _, Nat.le_refl _⟩
theorem s_chk3 {X : Cx} {σ : Hp} {z n : Int} (h0 : 0 ≤ z) (h1 : z < n) (hn : n ≤ 1000) : Ct X m_J3_checkIndex_8e157 1 [.int (i32 z), .int (i32 n), va_rf none] σ (.inl (some (.int (i32 z)))) σ := by
  refine Ct.of (by decide +kernel) rfl (Nat.le_of_ble_eq_true rfl) (by simp [Value.category, va_rf]) ?_
  refine Ev.iload_n (i := 0) dJ3_checkIndex_8e157_0 rfl rfl ?_
  refine Ei.if_lt_f (tgt := 9) dJ3_checkIndex_8e157_1 (by decide) ⟨by omega, by omega⟩ (by omega) ?_
  refine Ev.iload_n (i := 0) dJ3_checkIndex_8e157_4 rfl rfl ?_
  refine Ev.iload_n (i := 1) dJ3_checkIndex_8e157_5 rfl rfl ?_
  refine Ei.icmp_lt_t (tgt := 16) dJ3_checkIndex_8e157_6 (by decide) ⟨by omega, by omega⟩ ⟨by omega, by omega⟩ (by omega) ?_
  refine Ev.iload_n (i := 0) dJ3_checkIndex_8e157_16 rfl rfl ?_
  exact Ev.iretE rfl nar_i dJ3_checkIndex_8e157_17 rfl rfl
theorem s_chk {X : Cx} {σ : Hp} {z n : Int} (h0 : 0 ≤ z) (h1 : z < n) (hn : n ≤ 1000) : Ct X m_J15_checkIndex_7cf53 2 [.int (i32 z), .int (i32 n)] σ (.inl (some (.int (i32 z)))) σ := by
  refine Ct.of (by decide +kernel) rfl (Nat.le_of_ble_eq_true rfl) (by simp [Value.category, va_rf]) ?_
  refine Ev.iload_n (i := 0) dJ15_checkIndex_7cf53_0 rfl rfl ?_
  refine Ev.iload_n (i := 1) dJ15_checkIndex_7cf53_1 rfl rfl ?_
  refine Ev.aconst_null dJ15_checkIndex_7cf53_2 ?_
  refine Ev.cs1 (As := [_, _, _]) k_J3_checkIndex_8e157 (tb2 (i := 103) rfl) ki_J3_checkIndex_8e157 dJ15_checkIndex_7cf53_3 rfl rfl (Nat.le_of_ble_eq_true rfl) (by decide) (s_chk3 h0 h1 hn) ?_
  exact Ev.iretE rfl nar_i dJ15_checkIndex_7cf53_6 rfl rfl
theorem s_lsize {X : Cx} {σ : Hp} {l B : Nat} {xs : List Nat} (hL : LL X σ l B xs) : Ct X m_Jx4a65c_size_8abf5 1 [va_rf (some l)] σ (.inl (some (.int (i32 (xs.length : Int))))) σ := by
  obtain ⟨h1, h2, h3, h4, h5, h6⟩ := hL
  refine Ct.of (by decide +kernel) rfl (Nat.le_of_ble_eq_true rfl) (by simp [Value.category, va_rf]) ?_
  refine Ev.aload_n (i := 0) dJx4a65c_size_8abf5_0 rfl rfl ?_
  refine Er.gI (ci := 2) (k := 2) (i32 (xs.length : Int)) h3 rfl (by decide) (by decide) (tb1 (i := 60) rfl) (Or.inl rfl) rfl h1 dJx4a65c_size_8abf5_1 ?_
  exact Ev.iretE rfl nar_i dJx4a65c_size_8abf5_4 rfl rfl
theorem s_lempty {X : Cx} {σ : Hp} {l B : Nat} {xs : List Nat} (hL : LL X σ l B xs) : Ct X m_Jx4a65c_isEmpty_aae02 1 [va_rf (some l)] σ (.inl (some (.int (i32 (if xs.length = 0 then 1 else 0))))) σ := by
  obtain ⟨h1, h2, h3, h4, h5, h6⟩ := hL
  refine Ct.of (by decide +kernel) rfl (Nat.le_of_ble_eq_true rfl) (by simp [Value.category, va_rf]) ?_
  by_cases c : xs.length = 0
  · refine Ev.aload_n (i := 0) dJx4a65c_isEmpty_aae02_0 rfl rfl ?_
    refine Er.gI (ci := 2) (k := 2) (i32 (xs.length : Int)) h3 rfl (by decide) (by decide) (tb1 (i := 60) rfl) (Or.inl rfl) rfl h1 dJx4a65c_isEmpty_aae02_1 ?_
    refine Ei.if_ne_f (tgt := 11) dJx4a65c_isEmpty_aae02_4 (by decide) ⟨by omega, by omega⟩ (by omega) ?_
    refine Ei.const dJx4a65c_isEmpty_aae02_7 ?_
    refine Ev.goto (tgt := 12) dJx4a65c_isEmpty_aae02_8 (by decide) ?_
    exact Ev.iretE rfl (nar_b (by omega)) dJx4a65c_isEmpty_aae02_12 (by rw [if_pos c]) rfl
  · refine Ev.aload_n (i := 0) dJx4a65c_isEmpty_aae02_0 rfl rfl ?_
    refine Er.gI (ci := 2) (k := 2) (i32 (xs.length : Int)) h3 rfl (by decide) (by decide) (tb1 (i := 60) rfl) (Or.inl rfl) rfl h1 dJx4a65c_isEmpty_aae02_1 ?_
    refine Ei.if_ne_t (tgt := 11) dJx4a65c_isEmpty_aae02_4 (by decide) ⟨by omega, by omega⟩ (by omega) ?_
    refine Ei.const dJx4a65c_isEmpty_aae02_11 ?_
    exact Ev.iretE rfl (nar_b (by omega)) dJx4a65c_isEmpty_aae02_12 (by rw [if_neg c]) rfl
theorem s_ledata {X : Cx} {σ : Hp} {l B : Nat} {xs : List Nat} (hL : LL X σ l B xs) {z : Int} {x : Nat} (h0 : 0 ≤ z) (hx : xs[z.toNat]? = some x) : Ct X m_Jx4a65c_elementData_915e3 1 [va_rf (some l), .int (i32 z)] σ (.inl (some (va_rf (some x)))) σ := by
  have hz : z.toNat < xs.length := (List.getElem?_eq_some_iff.mp hx).1
  obtain ⟨h1, h2, h3, h4, h5, h6⟩ := hL
  have h7 : σ.kd B = 24 ∧ xs.length ≤ σ.ln B ∧ σ.ln B ≤ 400 := by
    rcases h6 with h6 | h6
    · rw [h6.2] at hz
      exact absurd hz (Nat.not_lt_zero _)
    · exact ⟨h6.1, h6.2.1, h6.2.2.2.1⟩
  refine Ct.of (by decide +kernel) rfl (Nat.le_of_ble_eq_true rfl) (by simp [Value.category, va_rf]) ?_
  refine Ev.aload_n (i := 0) dJx4a65c_elementData_915e3_0 rfl rfl ?_
  refine Er.gR (ci := 2) (k := 1) (some B) h2 rfl (by decide) (by decide) (tb1 (i := 59) rfl) (Or.inl rfl) rfl h1 dJx4a65c_elementData_915e3_1 ?_
  refine Ev.iload_n (i := 1) dJx4a65c_elementData_915e3_4 rfl rfl ?_
  refine Er.aald (some x) (h5 _ _ hx) h7.1 h0 (by omega) h7.2.2 dJx4a65c_elementData_915e3_5 ?_
  exact Ev.aretE rfl rfl dJx4a65c_elementData_915e3_6 rfl rfl
theorem s_lget {X : Cx} {σ : Hp} {l B : Nat} {xs : List Nat} (hL : LL X σ l B xs) {z : Int} {x : Nat} (h0 : 0 ≤ z) (hx : xs[z.toNat]? = some x) : Ct X m_Jx4a65c_get_915e3 3 [va_rf (some l), .int (i32 z)] σ (.inl (some (va_rf (some x)))) σ := by
  have hL9 := hL
  have hz : z.toNat < xs.length := (List.getElem?_eq_some_iff.mp hx).1
  obtain ⟨h1, h2, h3, h4, h5, h6⟩ := hL
  have h7 : σ.kd B = 24 ∧ xs.length ≤ σ.ln B ∧ σ.ln B ≤ 400 := by
    rcases h6 with h6 | h6
    · rw [h6.2] at hz
      exact absurd hz (Nat.not_lt_zero _)
    · exact ⟨h6.1, h6.2.1, h6.2.2.2.1⟩
  refine Ct.of (by decide +kernel) rfl (Nat.le_of_ble_eq_true rfl) (by simp [Value.category, va_rf]) ?_
  refine Ev.iload_n (i := 1) dJx4a65c_get_915e3_0 rfl rfl ?_
  refine Ev.aload_n (i := 0) dJx4a65c_get_915e3_1 rfl rfl ?_
  refine Er.gI (ci := 2) (k := 2) (i32 (xs.length : Int)) h3 rfl (by decide) (by decide) (tb1 (i := 60) rfl) (Or.inl rfl) rfl h1 dJx4a65c_get_915e3_2 ?_
  refine Ev.cs1 (As := [_, _]) k_J15_checkIndex_7cf53 (tb2 (i := 100) rfl) ki_J15_checkIndex_7cf53 dJx4a65c_get_915e3_5 rfl rfl (Nat.le_of_ble_eq_true rfl) (by decide) (s_chk h0 (by omega) (by omega)) ?_
  refine Ev.pop dJx4a65c_get_915e3_8 rfl ?_
  refine Ev.aload_n (i := 0) dJx4a65c_get_915e3_9 rfl rfl ?_
  refine Ev.iload_n (i := 1) dJx4a65c_get_915e3_10 rfl rfl ?_
  refine Ev.callV (ci := 2) (As := [_]) k_Jx4a65c_elementData_915e3 rfl h1 (tb2 (i := 106) rfl) ki_Jx4a65c_elementData_915e3 kv_Jx4a65c_elementData_915e3 dJx4a65c_get_915e3_11 rfl rfl (Nat.le_of_ble_eq_true rfl) (by decide) (s_ledata hL9 h0 hx) ?_
  exact Ev.aretE rfl rfl dJx4a65c_get_915e3_14 rfl rfl
