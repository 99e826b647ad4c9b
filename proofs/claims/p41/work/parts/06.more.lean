/-! words of the tables by their places; facts of the classes; more rules -/
theorem tb1 {w : Cond} {i : Nat} (h : tables_1_1[i]? = some w) : w ∈ lw_tbl := List.mem_append_right _ (List.mem_append_left _ (List.mem_of_getElem? h))
theorem tb2 {w : Cond} {i : Nat} (h : tables_1_2[i]? = some w) : w ∈ lw_tbl := List.mem_append_right _ (List.mem_append_right _ (List.mem_append_left _ (List.mem_of_getElem? h)))
theorem tb3 {w : Cond} {i : Nat} (h : tables_1_3[i]? = some w) : w ∈ lw_tbl := List.mem_append_right _ (List.mem_append_right _ (List.mem_append_right _ (List.mem_append_left _ (List.mem_of_getElem? h))))
theorem tb4 {w : Cond} {i : Nat} (h : tables_1_4[i]? = some w) : w ∈ lw_tbl := List.mem_append_right _ (List.mem_append_right _ (List.mem_append_right _ (List.mem_append_right _ (List.mem_append_left _ (List.mem_of_getElem? h)))))
theorem tb5 {w : Cond} {i : Nat} (h : tables_1_5[i]? = some w) : w ∈ lw_tbl := List.mem_append_right _ (List.mem_append_right _ (List.mem_append_right _ (List.mem_append_right _ (List.mem_append_right _ (List.mem_append_left _ (List.mem_of_getElem? h))))))
theorem tb6 {w : Cond} {i : Nat} (h : tables_1_6[i]? = some w) : w ∈ lw_tbl := List.mem_append_right _ (List.mem_append_right _ (List.mem_append_right _ (List.mem_append_right _ (List.mem_append_right _ (List.mem_append_right _ (List.mem_append_left _ (List.mem_of_getElem? h)))))))
theorem tb7 {w : Cond} {i : Nat} (h : tables_1_7[i]? = some w) : w ∈ lw_tbl := List.mem_append_right _ (List.mem_append_right _ (List.mem_append_right _ (List.mem_append_right _ (List.mem_append_right _ (List.mem_append_right _ (List.mem_append_right _ (List.mem_of_getElem? h)))))))
theorem cin2 : ∀ w ∈ u_ws RJx4a65c TJx4a65c 3, w ∈ lw_tbl := by
  intro w hw
  obtain ⟨k, hk, rfl⟩ := List.mem_map.mp hw
  have hk := List.mem_range.mp hk
  match k, hk with
  | 0, _ => exact tb1 (i := 67) rfl
  | 1, _ => exact tb1 (i := 63) rfl
  | 2, _ => exact tb1 (i := 65) rfl
  | k + 3, h => exact absurd h (by omega)
theorem cin3 : ∀ w ∈ u_ws RX0 TX0 7, w ∈ lw_tbl := by
  intro w hw
  obtain ⟨k, hk, rfl⟩ := List.mem_map.mp hw
  have hk := List.mem_range.mp hk
  match k, hk with
  | 0, _ => exact tb3 (i := 128) rfl
  | 1, _ => exact tb3 (i := 130) rfl
  | 2, _ => exact tb3 (i := 132) rfl
  | 3, _ => exact tb3 (i := 134) rfl
  | 4, _ => exact tb3 (i := 136) rfl
  | 5, _ => exact tb3 (i := 138) rfl
  | 6, _ => exact tb3 (i := 140) rfl
  | k + 7, h => exact absurd h (by omega)
theorem cin4 : ∀ w ∈ u_ws RX1 TX1 3, w ∈ lw_tbl := by
  intro w hw
  obtain ⟨k, hk, rfl⟩ := List.mem_map.mp hw
  have hk := List.mem_range.mp hk
  match k, hk with
  | 0, _ => exact tb6 (i := 47) rfl
  | 1, _ => exact tb6 (i := 49) rfl
  | 2, _ => exact tb6 (i := 51) rfl
  | k + 3, h => exact absurd h (by omega)
theorem cin5 : ∀ w ∈ u_ws RX2 TX2 5, w ∈ lw_tbl := by
  intro w hw
  obtain ⟨k, hk, rfl⟩ := List.mem_map.mp hw
  have hk := List.mem_range.mp hk
  match k, hk with
  | 0, _ => exact tb5 (i := 107) rfl
  | 1, _ => exact tb5 (i := 109) rfl
  | 2, _ => exact tb5 (i := 111) rfl
  | 3, _ => exact tb5 (i := 113) rfl
  | 4, _ => exact tb5 (i := 115) rfl
  | k + 5, h => exact absurd h (by omega)
theorem cin6 : ∀ w ∈ u_ws RX3 TX3 2, w ∈ lw_tbl := by
  intro w hw
  obtain ⟨k, hk, rfl⟩ := List.mem_map.mp hw
  have hk := List.mem_range.mp hk
  match k, hk with
  | 0, _ => exact tb5 (i := 130) rfl
  | 1, _ => exact tb5 (i := 132) rfl
  | k + 2, h => exact absurd h (by omega)
theorem cin7 : ∀ w ∈ u_ws RX4 TX4 2, w ∈ lw_tbl := by
  intro w hw
  obtain ⟨k, hk, rfl⟩ := List.mem_map.mp hw
  have hk := List.mem_range.mp hk
  match k, hk with
  | 0, _ => exact tb5 (i := 218) rfl
  | 1, _ => exact tb5 (i := 220) rfl
  | k + 2, h => exact absurd h (by omega)
theorem cin8 : ∀ w ∈ u_ws RX5 TX5 5, w ∈ lw_tbl := by
  intro w hw
  obtain ⟨k, hk, rfl⟩ := List.mem_map.mp hw
  have hk := List.mem_range.mp hk
  match k, hk with
  | 0, _ => exact tb1 (i := 85) rfl
  | 1, _ => exact tb1 (i := 87) rfl
  | 2, _ => exact tb1 (i := 89) rfl
  | 3, _ => exact tb1 (i := 91) rfl
  | 4, _ => exact tb1 (i := 93) rfl
  | k + 5, h => exact absurd h (by omega)
theorem cin9 : ∀ w ∈ u_ws RX6 TX6 5, w ∈ lw_tbl := by
  intro w hw
  obtain ⟨k, hk, rfl⟩ := List.mem_map.mp hw
  have hk := List.mem_range.mp hk
  match k, hk with
  | 0, _ => exact tb2 (i := 148) rfl
  | 1, _ => exact tb2 (i := 150) rfl
  | 2, _ => exact tb2 (i := 152) rfl
  | 3, _ => exact tb2 (i := 154) rfl
  | 4, _ => exact tb2 (i := 156) rfl
  | k + 5, h => exact absurd h (by omega)
theorem cin10 : ∀ w ∈ u_ws RX7 TX7 3, w ∈ lw_tbl := by
  intro w hw
  obtain ⟨k, hk, rfl⟩ := List.mem_map.mp hw
  have hk := List.mem_range.mp hk
  match k, hk with
  | 0, _ => exact tb2 (i := 211) rfl
  | 1, _ => exact tb2 (i := 213) rfl
  | 2, _ => exact tb2 (i := 215) rfl
  | k + 3, h => exact absurd h (by omega)
theorem cin11 : ∀ w ∈ u_ws RX8 TX8 6, w ∈ lw_tbl := by
  intro w hw
  obtain ⟨k, hk, rfl⟩ := List.mem_map.mp hw
  have hk := List.mem_range.mp hk
  match k, hk with
  | 0, _ => exact tb2 (i := 187) rfl
  | 1, _ => exact tb2 (i := 189) rfl
  | 2, _ => exact tb2 (i := 191) rfl
  | 3, _ => exact tb2 (i := 193) rfl
  | 4, _ => exact tb2 (i := 195) rfl
  | 5, _ => exact tb2 (i := 197) rfl
  | k + 6, h => exact absurd h (by omega)
theorem cin12 : ∀ w ∈ u_ws RX9 TX9 2, w ∈ lw_tbl := by
  intro w hw
  obtain ⟨k, hk, rfl⟩ := List.mem_map.mp hw
  have hk := List.mem_range.mp hk
  match k, hk with
  | 0, _ => exact tb1 (i := 107) rfl
  | 1, _ => exact tb1 (i := 109) rfl
  | k + 2, h => exact absurd h (by omega)
theorem cin13 : ∀ w ∈ u_ws RX10 TX10 12, w ∈ lw_tbl := by
  intro w hw
  obtain ⟨k, hk, rfl⟩ := List.mem_map.mp hw
  have hk := List.mem_range.mp hk
  match k, hk with
  | 0, _ => exact tb1 (i := 196) rfl
  | 1, _ => exact tb1 (i := 198) rfl
  | 2, _ => exact tb1 (i := 200) rfl
  | 3, _ => exact tb1 (i := 202) rfl
  | 4, _ => exact tb1 (i := 204) rfl
  | 5, _ => exact tb1 (i := 206) rfl
  | 6, _ => exact tb1 (i := 208) rfl
  | 7, _ => exact tb1 (i := 210) rfl
  | 8, _ => exact tb1 (i := 212) rfl
  | 9, _ => exact tb1 (i := 214) rfl
  | 10, _ => exact tb1 (i := 216) rfl
  | 11, _ => exact tb1 (i := 218) rfl
  | k + 12, h => exact absurd h (by omega)
/-- all that is asked of a class -/
theorem clok : ∀ (ci : Nat) (C : String) (T : u_T) (N : Nat), 2 ≤ ci → vwCl[ci]? = some (C, T, N) → (∀ w ∈ u_ws C T N, w ∈ lw_tbl) ∧ (∀ k, k < N → parseFieldDescriptor (T k).2.2.1 = some (ftab ci k)) ∧ (∀ a, a < N → ∀ b, b < N → a ≠ b → (T a).2.1 ≠ (T b).2.1) ∧ Cond.castable C "java/lang/Object" ∈ lw_tbl ∧ (∀ k, k < N → defaultValue (ftab ci k) = if isRf ci k = true then .null else .int 0) := by
  intro ci C T N h2 h
  match ci, h2, h with
  | 0, h2, _ => exact absurd h2 (by omega)
  | 1, h2, _ => exact absurd h2 (by omega)
  | 2, _, h => cases h; exact ⟨cin2, tyJx4a65c_ok, nmJx4a65c, tb6 (i := 223) rfl, by decide +kernel⟩
  | 3, _, h => cases h; exact ⟨cin3, tyX0_ok, nmX0, tb6 (i := 234) rfl, by decide +kernel⟩
  | 4, _, h => cases h; exact ⟨cin4, tyX1_ok, nmX1, tb7 (i := 0) rfl, by decide +kernel⟩
  | 5, _, h => cases h; exact ⟨cin5, tyX2_ok, nmX2, tb6 (i := 237) rfl, by decide +kernel⟩
  | 6, _, h => cases h; exact ⟨cin6, tyX3_ok, nmX3, tb6 (i := 238) rfl, by decide +kernel⟩
  | 7, _, h => cases h; exact ⟨cin7, tyX4_ok, nmX4, tb6 (i := 239) rfl, by decide +kernel⟩
  | 8, _, h => cases h; exact ⟨cin8, tyX5_ok, nmX5, tb6 (i := 224) rfl, by decide +kernel⟩
  | 9, _, h => cases h; exact ⟨cin9, tyX6_ok, nmX6, tb6 (i := 228) rfl, by decide +kernel⟩
  | 10, _, h => cases h; exact ⟨cin10, tyX7_ok, nmX7, tb6 (i := 230) rfl, by decide +kernel⟩
  | 11, _, h => cases h; exact ⟨cin11, tyX8_ok, nmX8, tb6 (i := 229) rfl, by decide +kernel⟩
  | 12, _, h => cases h; exact ⟨cin12, tyX9_ok, nmX9, tb6 (i := 225) rfl, by decide +kernel⟩
  | 13, _, h => cases h; exact ⟨cin13, tyX10_ok, nmX10, tb6 (i := 222) rfl, by decide +kernel⟩
  | ci + 14, _, h => exact absurd (vwCl_lt h) (by omega)
section MORE
variable {X : Cx} {M : Mt} {d pc : Nat} {ls : List (Option Value)} {rest : List Value} {σ τ : Hp} {o : Rs}
theorem Ev.gI {ci k ix a : Nat} {C : String} {T : u_T} {N : Nat} {ref : String} (hr : vwCl[ci]? = some (C, T, N)) (h2 : 2 ≤ ci) (hk : k < N) (hw : Cond.fieldLink M.y.cls ix ref (T k).2.1 (T k).2.2.1 ∈ lw_tbl) (hs : ref = (T k).1 ∨ Cond.sameField ref (T k).1 (T k).2.1 (T k).2.2.1 ∈ lw_tbl) (hrf : isRf ci k = false)
    (hkd : σ.kd a = ci + 1) (d9 : decode M.cc pc = .ok (.getfield ix, 3)) (kk : Ev X M d (pc + 3) ls (.int (σ.iv a k) :: rest) σ o τ) : Ev X M d pc ls (va_rf (some a) :: rest) σ o τ :=
  Ev.getf hr (clok ci C T N h2 hr).1 hk hw hs hkd d9 (by rw [show σ.fv ci a k = .int (σ.iv a k) by unfold Hp.fv; rw [hrf]; rfl]; exact kk)
theorem Ev.gR {ci k ix a : Nat} {C : String} {T : u_T} {N : Nat} {ref : String} (hr : vwCl[ci]? = some (C, T, N)) (h2 : 2 ≤ ci) (hk : k < N) (hw : Cond.fieldLink M.y.cls ix ref (T k).2.1 (T k).2.2.1 ∈ lw_tbl) (hs : ref = (T k).1 ∨ Cond.sameField ref (T k).1 (T k).2.1 (T k).2.2.1 ∈ lw_tbl) (hrf : isRf ci k = true)
    (hkd : σ.kd a = ci + 1) (d9 : decode M.cc pc = .ok (.getfield ix, 3)) (kk : Ev X M d (pc + 3) ls (va_rf (σ.rv a k) :: rest) σ o τ) : Ev X M d pc ls (va_rf (some a) :: rest) σ o τ :=
  Ev.getf hr (clok ci C T N h2 hr).1 hk hw hs hkd d9 (by rw [show σ.fv ci a k = va_rf (σ.rv a k) by unfold Hp.fv; rw [hrf]; rfl]; exact kk)
theorem Ev.pI {ci k ix a : Nat} {C : String} {T : u_T} {N : Nat} {ref : String} {x : Int32} (hr : vwCl[ci]? = some (C, T, N)) (h2 : 2 ≤ ci) (hk : k < N) (hw : Cond.fieldLink M.y.cls ix ref (T k).2.1 (T k).2.2.1 ∈ lw_tbl) (hs : ref = (T k).1 ∨ Cond.sameField ref (T k).1 (T k).2.1 (T k).2.2.1 ∈ lw_tbl) (hfin : (T k).2.2.2 = false ∨ (M.y.name = "<init>" ∧ (T k).1 = M.y.cls)) (hrf : isRf ci k = false) (hn : narrow (ftab ci k) (.int x) = .int x) (hfit : fits (ftab ci k) (.int x) = true)
    (hkd : σ.kd a = ci + 1) (d9 : decode M.cc pc = .ok (.putfield ix, 3)) (kk : Ev X M d (pc + 3) ls rest (σ.setI a k x) o τ) : Ev X M d pc ls (.int x :: va_rf (some a) :: rest) σ o τ :=
  Ev.putI hr (clok ci C T N h2 hr).1 (clok ci C T N h2 hr).2.1 (clok ci C T N h2 hr).2.2.1 hk hw hs hfin hrf hn hfit hkd d9 kk
theorem Ev.pR {ci k ix a : Nat} {C : String} {T : u_T} {N : Nat} {ref : String} {x : Option Nat} (hr : vwCl[ci]? = some (C, T, N)) (h2 : 2 ≤ ci) (hk : k < N) (hw : Cond.fieldLink M.y.cls ix ref (T k).2.1 (T k).2.2.1 ∈ lw_tbl) (hs : ref = (T k).1 ∨ Cond.sameField ref (T k).1 (T k).2.1 (T k).2.2.1 ∈ lw_tbl) (hfin : (T k).2.2.2 = false ∨ (M.y.name = "<init>" ∧ (T k).1 = M.y.cls)) (hrf : isRf ci k = true)
    (hkd : σ.kd a = ci + 1) (d9 : decode M.cc pc = .ok (.putfield ix, 3)) (kk : Ev X M d (pc + 3) ls rest (σ.setR a k x) o τ) : Ev X M d pc ls (va_rf x :: va_rf (some a) :: rest) σ o τ :=
  Ev.putR hr (clok ci C T N h2 hr).1 (clok ci C T N h2 hr).2.1 (clok ci C T N h2 hr).2.2.1 hk hw hs hfin hrf hkd d9 kk
theorem Nw_mv {c : Cond} {u U : State} (hc : c.onTables = true) (h : c.before #[] (u.setVm U.vm) = true) : c.before #[] U = true := by
  have e := Cond.onTables_vm (A := #[]) (A' := #[]) (U := u) (U' := U) U.vm c hc
  have hU : U.setVm U.vm = U := rfl
  rw [hU] at e
  rw [← e]
  exact h
theorem K0.cast {U : State} {C T : String} (h : K0 X) (hW : X.s0.WarmedH U.vm) (hm : Cond.castable C T ∈ lw_tbl) : va_Nw (.castable C T) U :=
  Nw_mv (u := X.s0) rfl (by rw [Cond.castable_setVm hW.alike]; exact va_Nw.of rfl (h.1 _ hm))
theorem HS.recv {H : Heap} {U : State} {a ci : Nat} {r : vw_C} (hH : HS X σ H) (h : K0 X) (hW : X.s0.WarmedH U.vm) (hk : σ.kd a = ci + 1) (hr : vwCl[ci]? = some r) : ∃ cell : Cell, H[a]? = some cell ∧ cell.vm.isStatics = false ∧ U.vm.findClass r.1 = some cell.cls := by
  obtain ⟨cell, q1, q2, q3, -⟩ := hH.obj hk hr
  obtain ⟨-, hfc, -⟩ := (h.va hW).1 ci _ hr
  exact ⟨cell, q1, by rw [q3]; rfl, by rw [q2]; exact hfc⟩
/-- what may lie in an array of objects -/
theorem HS.any {H : Heap} {U : State} {a : Nat} (hH : HS X σ H) (h : K0 X) (hW : X.s0.WarmedH U.vm) (h3 : 3 ≤ σ.kd a) (h15 : σ.kd a ≤ 14) : va_Any "java/lang/Object" U H a := by
  obtain ⟨ci, hci⟩ : ∃ ci, σ.kd a = ci + 1 := ⟨σ.kd a - 1, by omega⟩
  obtain ⟨⟨C, T, N⟩, hr⟩ : ∃ r, vwCl[ci]? = some r := ⟨_, List.getElem?_eq_getElem (show ci < vwCl.length from (by show ci < 14; omega))⟩
  obtain ⟨cell, q1, q2, q3⟩ := hH.recv h hW hci hr
  obtain ⟨kC, hkC, -⟩ := Vm.findClass_spec q3
  obtain ⟨c0, t0, f1, f2, f3⟩ := Cond.castable_spec (va_Nw.use (A := #[]) rfl (h.cast hW (clok ci C T N (by omega) hr).2.2.2.1))
  refine ⟨cell, q1, q2, ⟨kC, hkC⟩, fun comp hc => ?_⟩
  cases f1.symm.trans q3
  cases f2.symm.trans hc
  exact f3
theorem Ev.cast {ci ix a : Nat} {C : String} {T : u_T} {N : Nat} (hr : vwCl[ci]? = some (C, T, N)) (hw : Cond.classLink M.y.cls ix C ∈ lw_tbl) (hkd : σ.kd a = ci + 1) (d9 : decode M.cc pc = .ok (.checkcast ix, 3)) (k : Ev X M d (pc + 3) ls (va_rf (some a) :: rest) σ o τ) : Ev X M d pc ls (va_rf (some a) :: rest) σ o τ :=
  Ev.pure (fun p l e R s m args below meth c H locs cells slots Q la hF _ _ _ _ _ hH hl kk => by
    obtain ⟨hx, hb, -, -, -, hown, -, -, -, hK, hW, -, -⟩ := hF
    exact va_castS hx hb hown (hK.good hW hw rfl) (((hK.va hW).1 ci _ hr).2) (hH.recv hK hW hkd hr) d9 (kk _ hl)) k
theorem Ev.alen {a : Nat} {n : Int32} (hkd : σ.kd a = 20 ∨ σ.kd a = 23 ∨ σ.kd a = 24) (hn : (σ.ln a).toInt32 = n) (d9 : decode M.cc pc = .ok (.arraylength, 1)) (k : Ev X M d (pc + 1) ls (.int n :: rest) σ o τ) : Ev X M d pc ls (va_rf (some a) :: rest) σ o τ :=
  Ev.pure (fun p l e R s m args below meth c H locs cells slots Q la hF _ _ _ _ _ hH hl kk => by
    obtain ⟨hx, hb, -, -, -, hown, -, -, -, hK, hW, -, -⟩ := hF
    have hn' : ∀ (cA : ClassId) (f : Nat → Value), (arrV cA (σ.ln a) f).slots.size.toInt32 = n := fun cA f => by rw [arrV_size]; exact hn
    rcases hkd with h | h | h
    · exact W.alen hx hb ((hH.2.2.2.1 a).2.1 h) (((hK.va hW).2 0 _ rfl).1 _ (fun j => .int (σ.iv a j))) (hn' _ _) rfl rfl d9 (kk _ hl)
    · exact W.alen hx hb ((hH.2.2.2.1 a).2.2.2.2.1 h) (((hK.va hW).2 3 _ rfl).1 _ (fun j => .int (σ.iv a j))) (hn' _ _) rfl rfl d9 (kk _ hl)
    · exact W.alen hx hb ((hH.2.2.2.1 a).2.2.2.2.2 h) (((hK.va hW).2 4 _ rfl).1 _ (fun j => va_rf (σ.rv a j))) (hn' _ _) rfl rfl d9 (kk _ hl)) k
/-- the length of ArrayList's own empty array -/
theorem Ev.alen0 (d9 : decode M.cc pc = .ok (.arraylength, 1)) (k : Ev X M d (pc + 1) ls (.int 0 :: rest) σ o τ) : Ev X M d pc ls (va_rf (some X.t0) :: rest) σ o τ :=
  Ev.pure (fun p l e R s m args below meth c H locs cells slots Q la hF _ _ _ _ _ hH hl kk => by
    obtain ⟨hx, hb, -, -, -, hown, -, -, -, hK, hW, -, -⟩ := hF
    obtain ⟨-, -, -, -, -, ⟨cell, g1, g2, g3⟩, -, -, -, g4, -⟩ := hK
    exact W.alen hx hb (cell := cell) (by rw [hH.2.2.2.2 _ g4]; exact g1) (State.isArrayOf_alike hW.alike g2) (by rw [g3]; rfl) rfl rfl d9 (kk _ hl)) k
end MORE
