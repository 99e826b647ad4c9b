/-! what the start gives, out of the premises (written by wip/p41/mk9i.py) -/
def fl_1 : List Cond := flatC (Cond.and given_1 narrow_1)
theorem flm {w : Cond} {i : Nat} (h : fl_1[i]? = some w) : w ∈ flatC (Cond.and given_1 narrow_1) := List.mem_of_getElem? h
theorem len0 {args : Array Value} {s : State} {t : Term} (h : (Cond.eq (.length t) (.int 0)).before args s = true) : ∃ (a : Addr) (cell : Cell), t.eval args s none [] s = some (.ref a) ∧ s.heap[a]? = some cell ∧ cell.slots.size = 0 := by
  cases hv : (Term.length t).eval args s none [] s with
  | none => simp [Cond.before, Cond.holds, Cond.value, hv] at h
  | some v =>
    obtain ⟨a, cell, q1, q2, q3⟩ := Term.length_spec hv
    refine ⟨a, cell, q1, (State.arrayAt?_spec q2).1, ?_⟩
    by_cases hs : cell.slots.size < 2147483648
    · have h2 : cell.slots.size.toInt32 = 0 := by
        simp [Cond.before, Cond.holds, Cond.value, Term.eval, q1, q2, hs] at h
        exact h
      have h3 : Int32.ofNat cell.slots.size ≤ Int32.ofNat 0 := by
        rw [show Int32.ofNat cell.slots.size = 0 from h2]
        decide
      have h4 := (Int32.ofNat_le_ofNat hs (by decide)).mp h3
      omega
    · simp [Term.eval, q1, q2, hs] at hv
theorem cin0 : ∀ w ∈ u_ws RJ0 TJ0 4, w ∈ lw_tbl := by
  intro w hw
  obtain ⟨k, hk, rfl⟩ := List.mem_map.mp hw
  have hk := List.mem_range.mp hk
  match k, hk with
  | 0, _ => exact tb5 (i := 17) rfl
  | 1, _ => exact tb5 (i := 19) rfl
  | 2, _ => exact tb5 (i := 21) rfl
  | 3, _ => exact tb5 (i := 23) rfl
  | k + 4, h => exact absurd h (by omega)
theorem cin1 : ∀ w ∈ u_ws RJ4 TJ4 4, w ∈ lw_tbl := by
  intro w hw
  obtain ⟨k, hk, rfl⟩ := List.mem_map.mp hw
  have hk := List.mem_range.mp hk
  match k, hk with
  | 0, _ => exact tb4 (i := 57) rfl
  | 1, _ => exact tb4 (i := 59) rfl
  | 2, _ => exact tb4 (i := 61) rfl
  | 3, _ => exact tb4 (i := 63) rfl
  | k + 4, h => exact absurd h (by omega)
theorem kn_in : ∀ (ci : Nat) (q : vw_C), vwCl[ci]? = some q → (∀ w ∈ u_ws q.1 q.2.1 q.2.2, w ∈ lw_tbl) ∧ ∃ n, Cond.instantiable q.1 n ∈ lw_tbl := by
  intro ci q h
  match ci, h with
  | 0, h => cases h; exact ⟨cin0, 4, tb4 (i := 203) rfl⟩
  | 1, h => cases h; exact ⟨cin1, 4, tb4 (i := 36) rfl⟩
  | 2, h => cases h; exact ⟨cin2, 3, tb1 (i := 45) rfl⟩
  | 3, h => cases h; exact ⟨cin3, 7, tb3 (i := 88) rfl⟩
  | 4, h => cases h; exact ⟨cin4, 3, tb6 (i := 36) rfl⟩
  | 5, h => cases h; exact ⟨cin5, 5, tb5 (i := 90) rfl⟩
  | 6, h => cases h; exact ⟨cin6, 2, tb5 (i := 119) rfl⟩
  | 7, h => cases h; exact ⟨cin7, 2, tb5 (i := 210) rfl⟩
  | 8, h => cases h; exact ⟨cin8, 5, tb1 (i := 71) rfl⟩
  | 9, h => cases h; exact ⟨cin9, 5, tb2 (i := 132) rfl⟩
  | 10, h => cases h; exact ⟨cin10, 3, tb2 (i := 201) rfl⟩
  | 11, h => cases h; exact ⟨cin11, 6, tb2 (i := 169) rfl⟩
  | 12, h => cases h; exact ⟨cin12, 2, tb1 (i := 97) rfl⟩
  | 13, h => cases h; exact ⟨cin13, 12, tb1 (i := 37) rfl⟩
  | ci + 14, h => exact absurd (vwCl_lt h) (by omega)
theorem kn_ok {args : Array Value} {s : State} (hts : ∀ w ∈ lw_tbl, w.before args s = true) : ∃ D : va_G, ∀ (c : Nat) (q : vw_C), vwCl[c]? = some q → u_Kn s q.1 q.2.1 q.2.2 (D.1 c) (D.2 c) := by
  have h : ∀ c : Nat, ∃ r : ClassId × (Nat → Nat), ∀ q : vw_C, vwCl[c]? = some q → u_Kn s q.1 q.2.1 q.2.2 r.1 r.2 := fun c => by
    cases hc : vwCl[c]? with
    | none => exact ⟨((0 : Nat), fun _ => 0), fun q hq => by cases hq⟩
    | some q =>
      obtain ⟨h1, n, h2⟩ := kn_in c q hc
      obtain ⟨cC, iS, h3⟩ := u_known (args := args) hts h1 (hts _ h2)
      exact ⟨(cC, iS), fun q2 hq => by cases hq; exact h3⟩
  exact ⟨(fun c => (Classical.choose (h c)).1, fun c => (Classical.choose (h c)).2), fun c q hq => Classical.choose_spec (h c) q hq⟩
theorem ar_ok {args : Array Value} {s : State} {ty : FieldType} (h : (Cond.arrayClass ty).before args s = true) (hty : ∀ C, ty ≠ .object C) : ∃ cA : ClassId, ArrOfT s cA ty ∧ va_RA s cA ty := by
  obtain ⟨cA, kA, comp, h1, h2, h3⟩ := Cond.arrayClass_spec h
  refine ⟨cA, fun n z => ⟨(fun k h => by cases h), kA, h2, comp, h3⟩, ?_⟩
  cases ty <;> first | exact h1 | exact absurd rfl (hty _)
theorem ao_ok {args : Array Value} {s : State} {C : String} (h : (Cond.arrayOver (.object C)).before args s = true) : ∃ cA : ClassId, ArrOfT s cA (.object C) ∧ va_RA s cA (.object C) := by
  obtain ⟨comp, cA, kA, h1, h2, h3, h4, h5⟩ := Cond.arrayOver_spec h
  exact ⟨cA, fun n z => ⟨(fun k h => by cases h), kA, h3, comp, h4⟩, kA, comp, h3, h4, h1, h5⟩
def csL (c0 c1 c2 c3 c4 : ClassId) : Nat → ClassId
  | 0 => c0
  | 1 => c1
  | 2 => c2
  | 3 => c3
  | _ => c4
theorem ncs {args : Array Value} {s : State} (hf : ∀ w ∈ flatC (Cond.and given_1 narrow_1), w.before args s = true) : ∀ E nm, xcp E → xcp nm → E ≠ nm → va_Nc E nm s := by
  intro E nm hE hn hne
  rcases hE with rfl | rfl | rfl | rfl | rfl
  · rcases hn with rfl | rfl | rfl | rfl | rfl
    · exact absurd rfl hne
    · exact va_Nc.of (hf _ (flm (i := 243) (by decide +kernel)))
    · exact va_Nc.of (hf _ (flm (i := 297) (by decide +kernel)))
    · exact va_Nc.of (hf _ (flm (i := 261) (by decide +kernel)))
    · exact va_Nc.of (hf _ (flm (i := 279) (by decide +kernel)))
  · rcases hn with rfl | rfl | rfl | rfl | rfl
    · exact va_Nc.of (hf _ (flm (i := 225) (by decide +kernel)))
    · exact absurd rfl hne
    · exact va_Nc.of (hf _ (flm (i := 298) (by decide +kernel)))
    · exact va_Nc.of (hf _ (flm (i := 262) (by decide +kernel)))
    · exact va_Nc.of (hf _ (flm (i := 280) (by decide +kernel)))
  · rcases hn with rfl | rfl | rfl | rfl | rfl
    · exact va_Nc.of (hf _ (flm (i := 230) (by decide +kernel)))
    · exact va_Nc.of (hf _ (flm (i := 248) (by decide +kernel)))
    · exact absurd rfl hne
    · exact va_Nc.of (hf _ (flm (i := 266) (by decide +kernel)))
    · exact va_Nc.of (hf _ (flm (i := 285) (by decide +kernel)))
  · rcases hn with rfl | rfl | rfl | rfl | rfl
    · exact va_Nc.of (hf _ (flm (i := 229) (by decide +kernel)))
    · exact va_Nc.of (hf _ (flm (i := 247) (by decide +kernel)))
    · exact va_Nc.of (hf _ (flm (i := 302) (by decide +kernel)))
    · exact absurd rfl hne
    · exact va_Nc.of (hf _ (flm (i := 284) (by decide +kernel)))
  · rcases hn with rfl | rfl | rfl | rfl | rfl
    · exact va_Nc.of (hf _ (flm (i := 231) (by decide +kernel)))
    · exact va_Nc.of (hf _ (flm (i := 249) (by decide +kernel)))
    · exact va_Nc.of (hf _ (flm (i := 303) (by decide +kernel)))
    · exact va_Nc.of (hf _ (flm (i := 267) (by decide +kernel)))
    · exact absurd rfl hne
theorem start_x {args : Array Value} {s : State} {b L : Nat} {xs : Nat → Int32} (hts : ∀ w ∈ lw_tbl, w.before args s = true) (hX : va_X b L xs s s.heap) (hbl : b < s.heap.size) (hf : ∀ w ∈ flatC (Cond.and given_1 narrow_1), w.before args s = true) :
    ∃ X : Cx, K0 X ∧ KN X ∧ X.s0 = s ∧ X.sb = b ∧ X.sL = L ∧ X.t0 < X.b0 := by
  have hA : ∀ a : Nat, a < s.heap.size → ¬ (s.heap.size ≤ a) := fun a h => Nat.not_le.mpr h
  obtain ⟨D, hD⟩ := kn_ok hts
  obtain ⟨c0, a0⟩ := ar_ok (args := args) (s := s) (ty := .int) (hts _ (tb6 (i := 210) rfl)) (fun _ h => by cases h)
  obtain ⟨c3, a3⟩ := ar_ok (args := args) (s := s) (ty := .boolean) (hts _ (tb6 (i := 212) rfl)) (fun _ h => by cases h)
  obtain ⟨c4, a4⟩ := ao_ok (args := args) (s := s) (C := "java/lang/Object") (hts _ (tb1 (i := 174) rfl))
  obtain ⟨t0, tc, e1, e2, e3⟩ := len0 (args := args) (s := s) (t := .static "java/util/ArrayList" "DEFAULTCAPACITY_EMPTY_ELEMENTDATA" "[Ljava/lang/Object;") (hf _ (flm (i := 7) (by decide +kernel)))
  have e4 := Cond.arrayOf_spec (ty := .object "java/lang/Object") (hf _ (flm (i := 5) (by decide +kernel))) e1 e2
  have htl : t0 < s.heap.size := (Array.getElem?_eq_some_iff.mp e2).1
  obtain ⟨mi, hmi⟩ := va_Mi.of (hf (Cond.isRef (.mirror "[Ljava/lang/Object;")) (flm (i := 311) (by decide +kernel)))
  obtain ⟨cH, kH, hcH, -⟩ := Cond.instantiable_spec (hts (.instantiable "Hopyard" 12) (tb1 (i := 37) rfl))
  refine ⟨(D, csL c0 c0 c0 c3 c4, s, args, t0, b, L, xs, mi), ⟨hts, ⟨hD, fun k q hq => ?_⟩, ?_, ?_, ?_, ⟨tc, e2, e4.1, e3⟩, fun ix tx hm => ?_, hX, hbl, htl, hmi⟩, ncs hf, rfl, rfl, rfl, htl⟩
  · match k, hq with
    | 0, hq => cases hq; exact a0
    | 1, hq => cases hq; exact a0
    | 2, hq => cases hq; exact a0
    | 3, hq => cases hq; exact a3
    | 4, hq => cases hq; exact a4
    | k + 5, hq => exact absurd (List.getElem?_eq_some_iff.mp hq).1 (by show ¬ (k + 5 < 5); omega)
  · exact vx_Zqof (hts _ (tb2 (i := 49) rfl)) (hts _ (tb1 (i := 11) rfl)) (hf _ (flm (i := 8) (by decide +kernel))) hA
  · exact vx_Zqof (hts _ (tb2 (i := 51) rfl)) (hts _ (tb1 (i := 11) rfl)) (hf _ (flm (i := 9) (by decide +kernel))) hA
  · exact va_Zref (args := args) (hts _ (tb1 (i := 57) rfl)) (hts _ (tb1 (i := 4) rfl)) e1 hA
  · obtain ⟨k1, cf, i, sa, -, -, -, -, -, h6⟩ := Cond.stringRef_spec hcH (hts _ hm)
    exact ⟨sa, vk_R.of (hts _ hm) h6⟩
