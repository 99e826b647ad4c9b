/-! ArrayList: pictures and contracts (written by wip/whole/mk22.py) -/
section ERULES
variable {X : Cx} {σ : Hp} {M : Mt} {d pc : Nat} {ls : List (Option Value)} {rest : List Value} {o : Rs} {τ : Hp}
theorem Er.gI {ci k ix a : Nat} {C : String} {T : u_T} {N : Nat} {ref : String} (x : Int32) (hx : σ.iv a k = x) (hr : vwCl[ci]? = some (C, T, N)) (h2 : 2 ≤ ci) (hk : k < N) (hw : Cond.fieldLink M.y.cls ix ref (T k).2.1 (T k).2.2.1 ∈ lw_tbl) (hs : ref = (T k).1 ∨ Cond.sameField ref (T k).1 (T k).2.1 (T k).2.2.1 ∈ lw_tbl) (hrf : isRf ci k = false) (hkd : σ.kd a = ci + 1) (d9 : decode M.cc pc = .ok (.getfield ix, 3)) (kk : Ev X M d (pc + 3) ls (.int x :: rest) σ o τ) : Ev X M d pc ls (va_rf (some a) :: rest) σ o τ := Ev.gI hr h2 hk hw hs hrf hkd d9 (by rw [hx]; exact kk)
theorem Er.gR {ci k ix a : Nat} {C : String} {T : u_T} {N : Nat} {ref : String} (x : Option Nat) (hx : σ.rv a k = x) (hr : vwCl[ci]? = some (C, T, N)) (h2 : 2 ≤ ci) (hk : k < N) (hw : Cond.fieldLink M.y.cls ix ref (T k).2.1 (T k).2.2.1 ∈ lw_tbl) (hs : ref = (T k).1 ∨ Cond.sameField ref (T k).1 (T k).2.1 (T k).2.2.1 ∈ lw_tbl) (hrf : isRf ci k = true) (hkd : σ.kd a = ci + 1) (d9 : decode M.cc pc = .ok (.getfield ix, 3)) (kk : Ev X M d (pc + 3) ls (va_rf x :: rest) σ o τ) : Ev X M d pc ls (va_rf (some a) :: rest) σ o τ := Ev.gR hr h2 hk hw hs hrf hkd d9 (by rw [hx]; exact kk)
theorem Er.aald {a : Nat} {z : Int} (x : Option Nat) (hx : σ.rv a z.toNat = x) (hkd : σ.kd a = 24) (h0 : 0 ≤ z) (hi : z < (σ.ln a : Nat)) (hn : σ.ln a ≤ 300) (d9 : decode M.cc pc = .ok (.aaload, 1)) (kk : Ev X M d (pc + 1) ls (va_rf x :: rest) σ o τ) : Ev X M d pc ls (.int (i32 z) :: va_rf (some a) :: rest) σ o τ :=
  Ev.aald hkd (i32_vin h0 hi (by omega)) d9 (by rw [i32_cl h0 ⟨by omega, by omega⟩, hx]; exact kk)
theorem Er.aast {a : Nat} {z : Int} {v : Option Nat} (hkd : σ.kd a = 24) (h0 : 0 ≤ z) (hi : z < (σ.ln a : Nat)) (hn : σ.ln a ≤ 300) (hv : ∀ y, v = some y → 3 ≤ σ.kd y ∧ σ.kd y ≤ 14) (d9 : decode M.cc pc = .ok (.aastore, 1)) (kk : Ev X M d (pc + 1) ls rest (σ.setR a z.toNat v) o τ) : Ev X M d pc ls (va_rf v :: .int (i32 z) :: va_rf (some a) :: rest) σ o τ :=
  Ev.aast hkd (i32_vin h0 hi (by omega)) hv d9 (by rw [i32_cl h0 ⟨by omega, by omega⟩]; exact kk)
theorem Er.alen {a : Nat} (hkd : σ.kd a = 24) (hn : σ.ln a ≤ 300) (d9 : decode M.cc pc = .ok (.arraylength, 1)) (kk : Ev X M d (pc + 1) ls (.int (i32 ((σ.ln a : Nat) : Int)) :: rest) σ o τ) : Ev X M d pc ls (va_rf (some a) :: rest) σ o τ :=
  Ev.alen (Or.inr (Or.inr hkd)) rfl d9 kk
theorem Ev.aretE {v : Option Nat} {ty : FieldType} (hr : M.rt = some ty) (ht : ty.isReference = true) (d9 : decode M.cc pc = .ok (.areturn, 1)) (ho : o = .inl (some (va_rf v))) (hτ : τ = σ) : Ev X M d pc ls [va_rf v] σ o τ := by
  subst ho hτ
  exact Ev.aret hr ht d9
theorem Er.max {ix : Nat} {x y : Int} (hx : R32 x) (hy : R32 y) (hw : Cond.methodLink M.y.cls ix Lib.Math.max.name ∈ lw_tbl) (hd : 1 ≤ d) (hsz : (rest.map fun v => v.category).sum ≤ 60) (d9 : decode M.cc pc = .ok (.invokestatic ix, 3)) (k : Ev X M d (pc + 3) ls (.int (i32 (if x < y then y else x)) :: rest) σ o τ) : Ev X M d pc ls (.int (i32 y) :: .int (i32 x) :: rest) σ o τ :=
  Ev.max hw hd hsz d9 (by
    have e : (if i32 x < i32 y then i32 y else i32 x) = i32 (if x < y then y else x) := by
      by_cases h : x < y
      · rw [if_pos h, if_pos ((i32_lt hx hy).mpr h)]
      · rw [if_neg h, if_neg (fun q => h ((i32_lt hx hy).mp q))]
    rw [e]
    exact k)
theorem Er.min {ix : Nat} {x y : Int} (hx : R32 x) (hy : R32 y) (hw : Cond.methodLink M.y.cls ix Lib.Math.min.name ∈ lw_tbl) (hd : 1 ≤ d) (hsz : (rest.map fun v => v.category).sum ≤ 60) (d9 : decode M.cc pc = .ok (.invokestatic ix, 3)) (k : Ev X M d (pc + 3) ls (.int (i32 (if y < x then y else x)) :: rest) σ o τ) : Ev X M d pc ls (.int (i32 y) :: .int (i32 x) :: rest) σ o τ :=
  Ev.min hw hd hsz d9 (by
    have e : (if i32 y < i32 x then i32 y else i32 x) = i32 (if y < x then y else x) := by
      by_cases h : y < x
      · rw [if_pos h, if_pos ((i32_lt hy hx).mpr h)]
      · rw [if_neg h, if_neg (fun q => h ((i32_lt hy hx).mp q))]
    rw [e]
    exact k)
end ERULES
/-- what is known lies between the start and the heap's end -/
def WF (X : Cx) (σ : Hp) : Prop := X.t0 < X.b0 ∧ X.b0 ≤ σ.sz ∧ ∀ a, σ.kd a ≠ 0 → X.b0 ≤ a ∧ a < σ.sz
/-- the list l holds the objects xs; its array is B (the shared empty one at first) -/
def LL (X : Cx) (σ : Hp) (l B : Nat) (xs : List Nat) : Prop :=
  σ.kd l = 3 ∧ σ.rv l 1 = some B ∧ σ.iv l 2 = i32 (xs.length : Int) ∧ xs.length ≤ 200 ∧ (∀ i x, xs[i]? = some x → σ.rv B i = some x) ∧
  ((B = X.t0 ∧ xs = []) ∨ (σ.kd B = 24 ∧ xs.length ≤ σ.ln B ∧ 1 ≤ σ.ln B ∧ σ.ln B ≤ 300 ∧ ∀ i y, i < σ.ln B → σ.rv B i = some y → 3 ≤ σ.kd y ∧ σ.kd y ≤ 14))
def cap (X : Cx) (σ : Hp) (B : Nat) : Nat := if B = X.t0 then 0 else σ.ln B
/-- all but the list l with its array B stays; B' is its array afterwards; what room it took -/
def Fr (X : Cx) (σ τ : Hp) (l B B' : Nat) : Prop :=
  (∀ a, σ.kd a ≠ 0 → τ.kd a = σ.kd a ∧ τ.ln a = σ.ln a) ∧
  (∀ a, σ.kd a ≠ 0 → a ≠ l → a ≠ B → τ.iv a = σ.iv a ∧ τ.rv a = σ.rv a ∧ τ.lv a = σ.lv a ∧ τ.dv a = σ.dv a) ∧
  (B' = B ∨ (σ.sz ≤ B' ∧ B' < τ.sz ∧ τ.kd B' = 24)) ∧ σ.sz ≤ τ.sz ∧ WF X τ ∧
  τ.cl + cap X σ B ≤ σ.cl + cap X τ B' ∧ τ.sl + cap X σ B * cap X σ B ≤ σ.sl + cap X τ B' * cap X τ B' ∧ cap X σ B ≤ cap X τ B'
theorem Fr.rfl' {X : Cx} {σ : Hp} {l B : Nat} (h : WF X σ) : Fr X σ σ l B B := ⟨fun _ _ => ⟨rfl, rfl⟩, fun _ _ _ _ => ⟨rfl, rfl, rfl, rfl⟩, Or.inl rfl, Nat.le_refl _, h, Nat.le_refl _, Nat.le_refl _, Nat.le_refl _⟩
theorem s_chk3 {X : Cx} {σ : Hp} {z n : Int} (h0 : 0 ≤ z) (h1 : z < n) (hn : n ≤ 1000) : Ct X m_J3_checkIndex_8e157 1 [.int (i32 z), .int (i32 n), va_rf none] σ (.inl (some (.int (i32 z)))) σ := by
  refine Ct.of (by decide +kernel) rfl (Nat.le_of_ble_eq_true rfl) (by simp [Value.category, va_rf]) ?_
  refine Ev.iload_n (i := 0) dJ3_checkIndex_8e157_0 rfl rfl ?_
  refine Ei.if_lt_f (tgt := 9) dJ3_checkIndex_8e157_1 (by decide) ⟨by omega, by omega⟩ (by omega) ?_
  refine Ev.iload_n (i := 0) dJ3_checkIndex_8e157_4 rfl rfl ?_
  refine Ev.iload_n (i := 1) dJ3_checkIndex_8e157_5 rfl rfl ?_
  refine Ei.icmp_lt_t (tgt := 16) dJ3_checkIndex_8e157_6 (by decide) ⟨by omega, by omega⟩ ⟨by omega, by omega⟩ (by omega) ?_
  refine Ev.iload_n (i := 0) dJ3_checkIndex_8e157_16 rfl rfl ?_
  exact Ev.iretE rfl nar_i dJ3_checkIndex_8e157_17 rfl rfl
theorem s_chk {X : Cx} {σ : Hp} {z n : Int} (h0 : 0 ≤ z) (h1 : z < n) (hn : n ≤ 1000) : Ct X m_J15_checkIndex_7cf53 2 [.int (i32 z), .int (i32 n)] σ (.inl (some (.int (i32 z)))) σ := by
  refine Ct.of (by decide +kernel) rfl (Nat.le_of_ble_eq_true rfl) (by simp [Value.category, va_rf]) ?_
  refine Ev.iload_n (i := 0) dJ15_checkIndex_7cf53_0 rfl rfl ?_
  refine Ev.iload_n (i := 1) dJ15_checkIndex_7cf53_1 rfl rfl ?_
  refine Ev.aconst_null dJ15_checkIndex_7cf53_2 ?_
  refine Ev.cs1 (As := [_, _, _]) k_J3_checkIndex_8e157 (tb2 (i := 104) rfl) ki_J3_checkIndex_8e157 dJ15_checkIndex_7cf53_3 rfl rfl (Nat.le_of_ble_eq_true rfl) (by decide) (s_chk3 h0 h1 hn) ?_
  exact Ev.iretE rfl nar_i dJ15_checkIndex_7cf53_6 rfl rfl
theorem s_lsize {X : Cx} {σ : Hp} {l B : Nat} {xs : List Nat} (hL : LL X σ l B xs) : Ct X m_Jx4a65c_size_8abf5 1 [va_rf (some l)] σ (.inl (some (.int (i32 (xs.length : Int))))) σ := by
  obtain ⟨h1, h2, h3, h4, h5, h6⟩ := hL
  refine Ct.of (by decide +kernel) rfl (Nat.le_of_ble_eq_true rfl) (by simp [Value.category, va_rf]) ?_
  refine Ev.aload_n (i := 0) dJx4a65c_size_8abf5_0 rfl rfl ?_
  refine Er.gI (ci := 2) (k := 2) (i32 (xs.length : Int)) h3 rfl (by decide) (by decide) (tb1 (i := 59) rfl) (Or.inl rfl) rfl h1 dJx4a65c_size_8abf5_1 ?_
  exact Ev.iretE rfl nar_i dJx4a65c_size_8abf5_4 rfl rfl
theorem s_lempty {X : Cx} {σ : Hp} {l B : Nat} {xs : List Nat} (hL : LL X σ l B xs) : Ct X m_Jx4a65c_isEmpty_aae02 1 [va_rf (some l)] σ (.inl (some (.int (i32 (if xs.length = 0 then 1 else 0))))) σ := by
  obtain ⟨h1, h2, h3, h4, h5, h6⟩ := hL
  refine Ct.of (by decide +kernel) rfl (Nat.le_of_ble_eq_true rfl) (by simp [Value.category, va_rf]) ?_
  by_cases c : xs.length = 0
  · refine Ev.aload_n (i := 0) dJx4a65c_isEmpty_aae02_0 rfl rfl ?_
    refine Er.gI (ci := 2) (k := 2) (i32 (xs.length : Int)) h3 rfl (by decide) (by decide) (tb1 (i := 59) rfl) (Or.inl rfl) rfl h1 dJx4a65c_isEmpty_aae02_1 ?_
    refine Ei.if_ne_f (tgt := 11) dJx4a65c_isEmpty_aae02_4 (by decide) ⟨by omega, by omega⟩ (by omega) ?_
    refine Ei.const dJx4a65c_isEmpty_aae02_7 ?_
    refine Ev.goto (tgt := 12) dJx4a65c_isEmpty_aae02_8 (by decide) ?_
    exact Ev.iretE rfl (nar_b (by omega)) dJx4a65c_isEmpty_aae02_12 (by rw [if_pos c]) rfl
  · refine Ev.aload_n (i := 0) dJx4a65c_isEmpty_aae02_0 rfl rfl ?_
    refine Er.gI (ci := 2) (k := 2) (i32 (xs.length : Int)) h3 rfl (by decide) (by decide) (tb1 (i := 59) rfl) (Or.inl rfl) rfl h1 dJx4a65c_isEmpty_aae02_1 ?_
    refine Ei.if_ne_t (tgt := 11) dJx4a65c_isEmpty_aae02_4 (by decide) ⟨by omega, by omega⟩ (by omega) ?_
    refine Ei.const dJx4a65c_isEmpty_aae02_11 ?_
    exact Ev.iretE rfl (nar_b (by omega)) dJx4a65c_isEmpty_aae02_12 (by rw [if_neg c]) rfl
theorem s_ledata {X : Cx} {σ : Hp} {l B : Nat} {xs : List Nat} (hL : LL X σ l B xs) {z : Int} {x : Nat} (h0 : 0 ≤ z) (hx : xs[z.toNat]? = some x) : Ct X m_Jx4a65c_elementData_915e3 1 [va_rf (some l), .int (i32 z)] σ (.inl (some (va_rf (some x)))) σ := by
  have hz : z.toNat < xs.length := (List.getElem?_eq_some_iff.mp hx).1
  obtain ⟨h1, h2, h3, h4, h5, h6⟩ := hL
  have h7 : σ.kd B = 24 ∧ xs.length ≤ σ.ln B ∧ σ.ln B ≤ 300 := by
    rcases h6 with h6 | h6
    · rw [h6.2] at hz
      exact absurd hz (Nat.not_lt_zero _)
    · exact ⟨h6.1, h6.2.1, h6.2.2.2.1⟩
  refine Ct.of (by decide +kernel) rfl (Nat.le_of_ble_eq_true rfl) (by simp [Value.category, va_rf]) ?_
  refine Ev.aload_n (i := 0) dJx4a65c_elementData_915e3_0 rfl rfl ?_
  refine Er.gR (ci := 2) (k := 1) (some B) h2 rfl (by decide) (by decide) (tb1 (i := 58) rfl) (Or.inl rfl) rfl h1 dJx4a65c_elementData_915e3_1 ?_
  refine Ev.iload_n (i := 1) dJx4a65c_elementData_915e3_4 rfl rfl ?_
  refine Er.aald (some x) (h5 _ _ hx) h7.1 h0 (by omega) h7.2.2 dJx4a65c_elementData_915e3_5 ?_
  exact Ev.aretE rfl rfl dJx4a65c_elementData_915e3_6 rfl rfl
theorem s_lget {X : Cx} {σ : Hp} {l B : Nat} {xs : List Nat} (hL : LL X σ l B xs) {z : Int} {x : Nat} (h0 : 0 ≤ z) (hx : xs[z.toNat]? = some x) : Ct X m_Jx4a65c_get_915e3 3 [va_rf (some l), .int (i32 z)] σ (.inl (some (va_rf (some x)))) σ := by
  have hL9 := hL
  have hz : z.toNat < xs.length := (List.getElem?_eq_some_iff.mp hx).1
  obtain ⟨h1, h2, h3, h4, h5, h6⟩ := hL
  have h7 : σ.kd B = 24 ∧ xs.length ≤ σ.ln B ∧ σ.ln B ≤ 300 := by
    rcases h6 with h6 | h6
    · rw [h6.2] at hz
      exact absurd hz (Nat.not_lt_zero _)
    · exact ⟨h6.1, h6.2.1, h6.2.2.2.1⟩
  refine Ct.of (by decide +kernel) rfl (Nat.le_of_ble_eq_true rfl) (by simp [Value.category, va_rf]) ?_
  refine Ev.iload_n (i := 1) dJx4a65c_get_915e3_0 rfl rfl ?_
  refine Ev.aload_n (i := 0) dJx4a65c_get_915e3_1 rfl rfl ?_
  refine Er.gI (ci := 2) (k := 2) (i32 (xs.length : Int)) h3 rfl (by decide) (by decide) (tb1 (i := 59) rfl) (Or.inl rfl) rfl h1 dJx4a65c_get_915e3_2 ?_
  refine Ev.cs1 (As := [_, _]) k_J15_checkIndex_7cf53 (tb2 (i := 101) rfl) ki_J15_checkIndex_7cf53 dJx4a65c_get_915e3_5 rfl rfl (Nat.le_of_ble_eq_true rfl) (by decide) (s_chk h0 (by omega) (by omega)) ?_
  refine Ev.pop dJx4a65c_get_915e3_8 rfl ?_
  refine Ev.aload_n (i := 0) dJx4a65c_get_915e3_9 rfl rfl ?_
  refine Ev.iload_n (i := 1) dJx4a65c_get_915e3_10 rfl rfl ?_
  refine Ev.callV (ci := 2) (As := [_]) k_Jx4a65c_elementData_915e3 rfl h1 (tb2 (i := 107) rfl) ki_Jx4a65c_elementData_915e3 kv_Jx4a65c_elementData_915e3 dJx4a65c_get_915e3_11 rfl rfl (Nat.le_of_ble_eq_true rfl) (by decide) (s_ledata hL9 h0 hx) ?_
  exact Ev.aretE rfl rfl dJx4a65c_get_915e3_14 rfl rfl
theorem cap_24 {X : Cx} {σ : Hp} {B : Nat} (hW : WF X σ) (h : σ.kd B = 24) : cap X σ B = σ.ln B := if_neg (fun e => by have := (hW.2.2 B (by omega)).1; have := hW.1; omega)
theorem cap_0 {X : Cx} {σ : Hp} : cap X σ X.t0 = 0 := if_pos rfl
theorem WF.kd0 {X : Cx} {σ : Hp} (hW : WF X σ) : σ.kd σ.sz = 0 := by
  by_cases h : σ.kd σ.sz = 0
  · exact h
  · have := (hW.2.2 _ h).2
    omega
theorem WF.of {X : Cx} {σ τ : Hp} (hW : WF X σ) (hk : ∀ a, τ.kd a ≠ 0 → σ.kd a ≠ 0 ∨ (σ.sz ≤ a ∧ a < τ.sz)) (hs : σ.sz ≤ τ.sz) : WF X τ := ⟨hW.1, Nat.le_trans hW.2.1 hs, fun a ha => by
  rcases hk a ha with h | h
  · have := hW.2.2 a h
    omega
  · have := hW.2.1
    omega⟩
/-- the array has room for one more -/
theorem LL.room {X : Cx} {σ : Hp} {l B : Nat} {xs : List Nat} (h : LL X σ l B xs) : (B = X.t0 ∧ xs = []) ∨ (σ.kd B = 24 ∧ xs.length ≤ σ.ln B ∧ σ.ln B ≤ 300) := h.2.2.2.2.2.elim Or.inl (fun h => Or.inr ⟨h.1, h.2.1, h.2.2.2.1⟩)
theorem LL.set {X : Cx} {σ : Hp} {l B : Nat} {xs : List Nat} {i x : Nat} (hL : LL X σ l B xs) (hi : i < xs.length) (hx : 3 ≤ σ.kd x ∧ σ.kd x ≤ 14) : LL X (σ.setR B i (some x)) l B (xs.set i x) := by
  obtain ⟨h1, h2, h3, h4, h5, h6⟩ := hL
  have h6' : σ.kd B = 24 ∧ xs.length ≤ σ.ln B ∧ 1 ≤ σ.ln B ∧ σ.ln B ≤ 300 ∧ ∀ i y, i < σ.ln B → σ.rv B i = some y → 3 ≤ σ.kd y ∧ σ.kd y ≤ 14 := h6.elim (fun h => by rw [h.2] at hi; exact absurd hi (Nat.not_lt_zero _)) id
  have hne : ¬ l = B := fun e => by rw [e] at h1; omega
  refine ⟨h1, ?_, by rw [List.length_set]; exact h3, by rw [List.length_set]; exact h4, fun j y hj => ?_, Or.inr ⟨h6'.1, by rw [List.length_set]; exact h6'.2.1, h6'.2.2.1, h6'.2.2.2.1, fun j y hj hy => ?_⟩⟩
  · show (if l = B ∧ 1 = i then _ else _) = _
    rw [if_neg (fun h => hne h.1)]
    exact h2
  · show (if B = B ∧ j = i then _ else _) = _
    rw [List.getElem?_set] at hj
    by_cases e : i = j
    · rw [if_pos e, if_pos hi] at hj
      rw [if_pos ⟨rfl, e.symm⟩, ← hj]
    · rw [if_neg e] at hj
      rw [if_neg (fun h => e h.2.symm)]
      exact h5 j y hj
  · have hy' : (if B = B ∧ j = i then some x else σ.rv B j) = some y := hy
    by_cases e : j = i
    · rw [if_pos ⟨rfl, e⟩] at hy'
      cases hy'
      exact hx
    · rw [if_neg (fun h => e h.2)] at hy'
      exact h6'.2.2.2.2 j y hj hy'
theorem Fr.set {X : Cx} {σ : Hp} {l B i : Nat} {x : Option Nat} (hW : WF X σ) : Fr X σ (σ.setR B i x) l B B := ⟨fun _ _ => ⟨rfl, rfl⟩, fun a _ _ hB => ⟨rfl, by
    funext j
    show (if a = B ∧ j = i then _ else _) = _
    rw [if_neg (fun h => hB h.1)], rfl, rfl⟩, Or.inl rfl, Nat.le_refl _, hW, Nat.le_refl _, Nat.le_refl _, Nat.le_refl _⟩
theorem shr1 {n : Nat} (h : n ≤ 300) : i32 (n : Int) >>> (1 : Int32) = i32 ((n / 2 : Nat) : Int) := by
  have key : ∀ k : Fin 401, i32 ((k : Nat) : Int) >>> (1 : Int32) = i32 (((k : Nat) / 2 : Nat) : Int) := by decide +kernel
  exact key ⟨n, by omega⟩
theorem s_lset {X : Cx} {σ : Hp} {l B : Nat} {xs : List Nat} (hL : LL X σ l B xs) {z : Int} {x y : Nat} (h0 : 0 ≤ z) (hx : xs[z.toNat]? = some y) (hk : 3 ≤ σ.kd x ∧ σ.kd x ≤ 14) : Ct X m_Jx4a65c_set_bcc79 3 [va_rf (some l), .int (i32 z), va_rf (some x)] σ (.inl (some (va_rf (some y)))) (σ.setR B z.toNat (some x)) := by
  have hL9 := hL
  have hz : z.toNat < xs.length := (List.getElem?_eq_some_iff.mp hx).1
  obtain ⟨h1, h2, h3, h4, h5, h6⟩ := hL
  have h7 : σ.kd B = 24 ∧ xs.length ≤ σ.ln B ∧ σ.ln B ≤ 300 := by
    rcases h6 with h6 | h6
    · rw [h6.2] at hz
      exact absurd hz (Nat.not_lt_zero _)
    · exact ⟨h6.1, h6.2.1, h6.2.2.2.1⟩
  refine Ct.of (by decide +kernel) rfl (Nat.le_of_ble_eq_true rfl) (by simp [Value.category, va_rf]) ?_
  refine Ev.iload_n (i := 1) dJx4a65c_set_bcc79_0 rfl rfl ?_
  refine Ev.aload_n (i := 0) dJx4a65c_set_bcc79_1 rfl rfl ?_
  refine Er.gI (ci := 2) (k := 2) (i32 (xs.length : Int)) h3 rfl (by decide) (by decide) (tb1 (i := 59) rfl) (Or.inl rfl) rfl h1 dJx4a65c_set_bcc79_2 ?_
  refine Ev.cs1 (As := [_, _]) k_J15_checkIndex_7cf53 (tb2 (i := 101) rfl) ki_J15_checkIndex_7cf53 dJx4a65c_set_bcc79_5 rfl rfl (Nat.le_of_ble_eq_true rfl) (by decide) (s_chk h0 (by omega) (by omega)) ?_
  refine Ev.pop dJx4a65c_set_bcc79_8 rfl ?_
  refine Ev.aload_n (i := 0) dJx4a65c_set_bcc79_9 rfl rfl ?_
  refine Ev.iload_n (i := 1) dJx4a65c_set_bcc79_10 rfl rfl ?_
  refine Ev.callV (ci := 2) (As := [_]) k_Jx4a65c_elementData_915e3 rfl h1 (tb2 (i := 107) rfl) ki_Jx4a65c_elementData_915e3 kv_Jx4a65c_elementData_915e3 dJx4a65c_set_bcc79_11 rfl rfl (Nat.le_of_ble_eq_true rfl) (by decide) (s_ledata hL9 h0 hx) ?_
  refine Ev.astore_n (i := 3) dJx4a65c_set_bcc79_14 rfl (by decide) ?_
  refine Ev.aload_n (i := 0) dJx4a65c_set_bcc79_15 rfl rfl ?_
  refine Er.gR (ci := 2) (k := 1) (some B) h2 rfl (by decide) (by decide) (tb1 (i := 58) rfl) (Or.inl rfl) rfl h1 dJx4a65c_set_bcc79_16 ?_
  refine Ev.iload_n (i := 1) dJx4a65c_set_bcc79_19 rfl rfl ?_
  refine Ev.aload_n (i := 2) dJx4a65c_set_bcc79_20 rfl rfl ?_
  refine Er.aast h7.1 h0 (by omega) h7.2.2 (fun y hy => by cases hy; exact hk) dJx4a65c_set_bcc79_21 ?_
  refine Ev.aload_n (i := 3) dJx4a65c_set_bcc79_22 rfl rfl ?_
  exact Ev.aretE rfl rfl dJx4a65c_set_bcc79_23 rfl rfl
theorem s_copyOf3 {X : Cx} {σ : Hp} {B n j : Nat} (hW : WF X σ) (hB : σ.kd B = 24) (hn : σ.ln B = n) (hnj : n ≤ j) (hj : j ≤ 300) (hv : ∀ i y, i < n → σ.rv B i = some y → 3 ≤ σ.kd y ∧ σ.kd y ≤ 14) : Ct X m_J7_copyOf_6403c 1 [va_rf (some B), .int (i32 (j : Int)), va_rf (some X.mi)] σ (.inl (some (va_rf (some σ.sz)))) ((σ.al 24 j j).row σ.sz (va_cpy ((σ.al 24 j j).rv B) ((σ.al 24 j j).rv σ.sz) 0 0 n)) := by
  have hBz : ¬ B = σ.sz := fun e => by have := (hW.2.2 B (by omega)).2; omega
  have k1 : (σ.al 24 j j).kd B = 24 := (up1_ne _ _ hBz).trans hB
  have k2 : (σ.al 24 j j).kd σ.sz = 24 := up1_eq _ _ _
  have l1 : (σ.al 24 j j).ln B = n := (up1_ne _ _ hBz).trans hn
  have l2 : (σ.al 24 j j).ln σ.sz = j := up1_eq _ _ _
  have r1 : (σ.al 24 j j).rv B = σ.rv B := up1_ne _ _ hBz
  have cn : (i32 (n : Int)).toNatClampNeg = n := (i32_cl (by omega) ⟨by omega, by omega⟩).trans (Int.toNat_natCast n)
  have cz : (i32 0).toNatClampNeg = 0 := rfl
  have lz : ∀ z : Int, 0 ≤ z → z ≤ 1000 → ¬ i32 z < 0 := fun z h1 h2 h3 => by have := (i32_lt (b := 0) ⟨by omega, by omega⟩ R32_0).mp h3; omega
  refine Ct.of (by decide +kernel) rfl (Nat.le_of_ble_eq_true rfl) (by simp [Value.category, va_rf]) ?_
  refine Ev.aload_n (i := 2) dJ7_copyOf_6403c_0 rfl rfl ?_
  refine Ev.ldcM (tb1 (i := 173) rfl) dJ7_copyOf_6403c_1 ?_
  refine Ev.acmp_ne_f (tgt := 13) dJ7_copyOf_6403c_3 (by decide) (fun h => h rfl) ?_
  refine Ev.iload_n (i := 1) dJ7_copyOf_6403c_6 rfl rfl ?_
  refine Ev.anewA (n := i32 (j : Int)) (j := j) (lz _ (by omega) (by omega)) ((i32_cl (by omega) ⟨by omega, by omega⟩).trans (Int.toNat_natCast j)) (by omega) (tb1 (i := 175) rfl) dJ7_copyOf_6403c_7 ?_
  refine Ev.goto (tgt := 24) dJ7_copyOf_6403c_10 (by decide) ?_
  refine Ev.astore_n (i := 3) dJ7_copyOf_6403c_24 rfl (by decide) ?_
  refine Ev.aload_n (i := 0) dJ7_copyOf_6403c_25 rfl rfl ?_
  refine Ei.const dJ7_copyOf_6403c_26 ?_
  refine Ev.aload_n (i := 3) dJ7_copyOf_6403c_27 rfl rfl ?_
  refine Ei.const dJ7_copyOf_6403c_28 ?_
  refine Ev.aload_n (i := 0) dJ7_copyOf_6403c_29 rfl rfl ?_
  refine Er.alen k1 (by omega) dJ7_copyOf_6403c_30 ?_
  rw [l1]
  refine Ev.iload_n (i := 1) dJ7_copyOf_6403c_31 rfl rfl ?_
  refine Er.min ⟨by omega, by omega⟩ ⟨by omega, by omega⟩ (tb1 (i := 176) rfl) (by decide) (by simp [Value.category, va_rf]) dJ7_copyOf_6403c_32 ?_
  rw [show (if (j : Int) < (n : Int) then (j : Int) else (n : Int)) = (n : Int) by split <;> omega]
  refine Ev.copy k1 k2 (lz 0 (by omega) (by omega)) (lz 0 (by omega) (by omega)) (lz _ (by omega) (by omega)) (by rw [cn, cz, l1]; omega) (by rw [cn, cz, l2]; omega) (by rw [cn, cz, r1]; intro i hi y hy; rw [Nat.zero_add] at hy; have g := hv i y hi hy; have e : (σ.al 24 j j).kd y = σ.kd y := up1_ne _ _ (fun e => by have := (hW.2.2 y (by omega)).2; omega); rw [e]; exact g) (by decide) (by simp [Value.category, va_rf]) (tb1 (i := 179) rfl) dJ7_copyOf_6403c_35 ?_
  rw [cn, cz]
  refine Ev.aload_n (i := 3) dJ7_copyOf_6403c_38 rfl rfl ?_
  exact Ev.aretE rfl rfl dJ7_copyOf_6403c_39 rfl rfl
theorem s_copyOf2 {X : Cx} {σ : Hp} {B n j : Nat} (hW : WF X σ) (hB : σ.kd B = 24) (hn : σ.ln B = n) (hnj : n ≤ j) (hj : j ≤ 300) (hv : ∀ i y, i < n → σ.rv B i = some y → 3 ≤ σ.kd y ∧ σ.kd y ≤ 14) : Ct X m_J7_copyOf_1904c 2 [va_rf (some B), .int (i32 (j : Int))] σ (.inl (some (va_rf (some σ.sz)))) ((σ.al 24 j j).row σ.sz (va_cpy ((σ.al 24 j j).rv B) ((σ.al 24 j j).rv σ.sz) 0 0 n)) := by
  refine Ct.of (by decide +kernel) rfl (Nat.le_of_ble_eq_true rfl) (by simp [Value.category, va_rf]) ?_
  refine Ev.aload_n (i := 0) dJ7_copyOf_1904c_0 rfl rfl ?_
  refine Ev.iload_n (i := 1) dJ7_copyOf_1904c_1 rfl rfl ?_
  refine Ev.aload_n (i := 0) dJ7_copyOf_1904c_2 rfl rfl ?_
  refine Ev.getC hB (tb1 (i := 147) rfl) (by decide) (by simp [Value.category, va_rf]) dJ7_copyOf_1904c_3 ?_
  refine Ev.cs1 (As := [_, _, _]) k_J7_copyOf_6403c (tb1 (i := 170) rfl) ki_J7_copyOf_6403c dJ7_copyOf_1904c_6 rfl rfl (Nat.le_of_ble_eq_true rfl) (by decide) (s_copyOf3 hW hB hn hnj hj hv) ?_
  exact Ev.aretE rfl rfl dJ7_copyOf_1904c_9 rfl rfl
theorem ldcsoft : Cond.constant "jdk/internal/util/ArraysSupport" 200 (i32 2147483639) ∈ lw_tbl := by
  have h : i32 2147483639 = (2147483639 : Int32) := by decide
  rw [h]
  exact tb1 (i := 140) rfl
theorem s_newLength {X : Cx} {σ : Hp} {a b c : Int} (ha : 0 ≤ a ∧ a ≤ 1000) (hb : 1 ≤ b ∧ b ≤ 1000) (hc : 0 ≤ c ∧ c ≤ 1000) : Ct X m_J8_newLength_cabcc 1 [.int (i32 a), .int (i32 b), .int (i32 c)] σ (.inl (some (.int (i32 (a + (if b < c then c else b)))))) σ := by
  have e : 0 ≤ (if b < c then c else b) ∧ (if b < c then c else b) ≤ 1000 ∧ 1 ≤ (if b < c then c else b) := by split <;> omega
  refine Ct.of (by decide +kernel) rfl (Nat.le_of_ble_eq_true rfl) (by simp [Value.category, va_rf]) ?_
  refine Ev.iload_n (i := 0) dJ8_newLength_cabcc_0 rfl rfl ?_
  refine Ev.iload_n (i := 1) dJ8_newLength_cabcc_1 rfl rfl ?_
  refine Ev.iload_n (i := 2) dJ8_newLength_cabcc_2 rfl rfl ?_
  refine Er.max ⟨by omega, by omega⟩ ⟨by omega, by omega⟩ (tb1 (i := 137) rfl) (by decide) (by simp [Value.category, va_rf]) dJ8_newLength_cabcc_3 ?_
  refine Ei.add dJ8_newLength_cabcc_6 ?_
  refine Ev.istore_n (i := 3) dJ8_newLength_cabcc_7 rfl (by decide) ?_
  refine Ei.const dJ8_newLength_cabcc_8 ?_
  refine Ev.iload_n (i := 3) dJ8_newLength_cabcc_9 rfl rfl ?_
  refine Ei.icmp_ge_f (tgt := 21) dJ8_newLength_cabcc_10 (by decide) ⟨by omega, by omega⟩ ⟨by omega, by omega⟩ (by omega) ?_
  refine Ev.iload_n (i := 3) dJ8_newLength_cabcc_13 rfl rfl ?_
  refine Ev.ldc (v := i32 2147483639) dJ8_newLength_cabcc_14 ldcsoft (by decide +kernel) ?_
  refine Ei.icmp_gt_f (tgt := 21) dJ8_newLength_cabcc_16 (by decide) ⟨by omega, by omega⟩ ⟨by omega, by omega⟩ (by omega) ?_
  refine Ev.iload_n (i := 3) dJ8_newLength_cabcc_19 rfl rfl ?_
  exact Ev.iretE rfl nar_i dJ8_newLength_cabcc_20 rfl rfl
