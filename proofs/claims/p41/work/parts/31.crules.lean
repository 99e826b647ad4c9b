/-! the class's judgement: fields, tests of references, ends, calls, new objects, throws -/
theorem oA_some {A : Nat → Int → Nat} {t : Nat} {z : Int} (h : z ≠ -1) : oA A t z = some (A t z) := if_neg h
theorem rg.nn {c : Cs} {t : Nat} {z : Int} (h : rg c t z) : z ≠ -1 := fun e => by
  have := h.2.1
  omega
theorem rg.cl {c : Cs} {t : Nat} {z : Int} (h : rg c t z) : 2 ≤ t ∧ t < 100 := ⟨h.1.1, by have := h.1.2; omega⟩
theorem ia_rg {c : Cs} {A : Nat → Int → Nat} {t : Nat} {z : Int} (h : rg c t z) : ia A (t, z) = va_rf (some (A t z)) := ia_r h.cl
/-- a value is the reference z of class t, or null -/
def isR (x : AV) (t : Nat) (z : Int) : Prop := 2 ≤ t ∧ t < 100 ∧ (x = (t, z) ∨ x = (t + 100, z))
theorem isR.at {c : Cs} {A : Nat → Int → Nat} {x : AV} {t : Nat} {z : Int} (h : isR x t z) (hw : wv c x) : ia A x = va_rf (oA A t z) ∧ (z = -1 ∨ rg c t z) := by
  obtain ⟨h1, h2, rfl | rfl⟩ := h
  · have hr := hw.r ⟨h1, h2⟩
    exact ⟨(ia_rg hr).trans (by rw [oA_some hr.nn]), Or.inr hr⟩
  · exact ⟨ia_q, hw.q⟩
theorem oA_inj {X : Cx} {ρ σ : Hp} {A : Nat → Int → Nat} {c : Cs} {B : Int → Nat} {t : Nat} {z w : Int} (h : CR X ρ σ A c B) (hz : z = -1 ∨ rg c t z) (hw : w = -1 ∨ rg c t w) : oA A t z = oA A t w ↔ z = w := by
  constructor
  · intro e
    rcases hz with rfl | hz
    · rcases hw with rfl | hw
      · rfl
      · rw [oA_some hw.nn] at e
        exact absurd e (by unfold oA; rw [if_pos rfl]; exact fun h => by cases h)
    · rcases hw with rfl | hw
      · rw [oA_some hz.nn] at e
        exact absurd e.symm (by unfold oA; rw [if_pos rfl]; exact fun h => by cases h)
      · rw [oA_some hz.nn, oA_some hw.nn] at e
        exact (h.key hz hw (Option.some.inj e)).2
  · exact fun e => by rw [e]
/-- the locals as a loop wants them: some forgotten, some references taken as such that may be null -/
def lcv : List (Option AV) → List (Option AV) → Prop
  | [], _ => True
  | none :: a, _ :: b => lcv a b
  | some x :: a, y :: b => (y = some x ∨ ∃ t z, 2 ≤ t ∧ t < 100 ∧ x = (t + 100, z) ∧ y = some (t, z)) ∧ lcv a b
  | _ :: _, [] => False
theorem lcv.at {c : Cs} {A : Nat → Int → Nat} : ∀ {ls' ls : List (Option AV)}, lcv ls' ls → WL c ls → WL c ls' ∧ ∀ (i : Nat) (v : Value), (vl A ls')[i]? = some (some v) → (vl A ls)[i]? = some (some v) := by
  intro ls'
  induction ls' with
  | nil => exact fun {ls} _ _ => ⟨fun x hx => (by cases hx), fun i v h => by simp [vl] at h⟩
  | cons y a ih =>
    intro ls h hw
    cases ls with
    | nil => cases y <;> exact h.elim
    | cons x b =>
      have hwb : WL c b := fun q hq => hw q (List.mem_cons_of_mem _ hq)
      cases y with
      | none =>
        have g := ih (ls := b) h hwb
        refine ⟨fun q hq => ?_, fun i v hi => ?_⟩
        · rcases List.mem_cons.mp hq with e | e
          · cases e
          · exact g.1 q e
        · cases i with
          | zero => simp [vl] at hi
          | succ i => exact g.2 i v hi
      | some y =>
        have g := ih (ls := b) h.2 hwb
        have key : wv c y ∧ ∃ x0, x = some x0 ∧ ia A x0 = ia A y := by
          rcases h.1 with e | ⟨t, z, h1, h2, e1, e2⟩
          · subst e
            exact ⟨hw y List.mem_cons_self, y, rfl, rfl⟩
          · subst e1 e2
            have hr := (hw (t, z) List.mem_cons_self).r ⟨h1, h2⟩
            exact ⟨wv_q (Or.inr hr), (t, z), rfl, by rw [ia_rg hr, ia_q, oA_some hr.nn]⟩
        refine ⟨fun q hq => ?_, fun i v hi => ?_⟩
        · rcases List.mem_cons.mp hq with e | e
          · cases e
            exact key.1
          · exact g.1 q e
        · cases i with
          | zero =>
            obtain ⟨x0, rfl, e⟩ := key.2
            have hi' : some (some (ia A y)) = some (some v) := hi
            show some (some (ia A x0)) = some (some v)
            rw [e]
            exact hi'
          | succ i => exact g.2 i v hi
def eb (xs : List Int) : Int := if xs.length = 0 then 1 else 0
theorem eb_r (xs : List Int) : 0 ≤ eb xs ∧ eb xs ≤ 1 := by
  unfold eb
  split <;> exact ⟨by decide, by decide⟩
theorem cput_rg {c : Cs} {ci k : Nat} {i x : Int} {t : Nat} {z : Int} : rg (cput c ci k i x) t z ↔ rg c t z := Iff.rfl
section EC2
variable {X : Cx} {ρ : Hp} {M : Mt} {d pc : Nat} {ls : List (Option AV)} {st : List AV} {c c' : Cs} {r : Rr}
theorem Ec.cnv {ls' : List (Option AV)} (h : lcv ls' ls) (k : Ec X ρ M d pc ls' st c r c') : Ec X ρ M d pc ls st c r c' := Ec.pure (fun A _ _ _ hl hs => ⟨⟨(h.at (A := A) hl).1, hs⟩, fun _ _ g => g.forget (h.at hl).2⟩) k
/-- a reference that isn't null -/
theorem Ec.nn {i t : Nat} {z : Int} (hi : ls[i]? = some (some (t + 100, z))) (hz : z ≠ -1) (ht : 2 ≤ t ∧ t < 100) (k : Ec X ρ M d pc (ls.set i (some (t, z))) st c r c') : Ec X ρ M d pc ls st c r c' := Ec.pure (fun A _ _ _ hl hs => by
  have hr := ((hl.get hi).q).resolve_left hz
  refine ⟨⟨hl.set (wv_r hr), hs⟩, fun o τ h => ?_⟩
  have e : vl A (ls.set i (some (t, z))) = vl A ls := by
    rw [vl_set, ia_rg hr]
    have e2 : (vl A ls)[i]? = some (some (va_rf (some (A t z)))) := by rw [vl_get hi, ia_q, oA_some hz]
    obtain ⟨h1, h2⟩ := List.getElem?_eq_some_iff.mp e2
    rw [← h2]
    exact List.set_getElem_self h1
  rw [e] at h
  exact h) k
theorem Ec.nns {t : Nat} {z : Int} (hz : z ≠ -1) (ht : 2 ≤ t ∧ t < 100) (k : Ec X ρ M d pc ls ((t, z) :: st) c r c') : Ec X ρ M d pc ls ((t + 100, z) :: st) c r c' := Ec.pure (fun A _ _ _ hl hs => by
  have hr := (hs.hd.q).resolve_left hz
  refine ⟨⟨hl, hs.tl.cons (wv_r hr)⟩, fun o τ h => ?_⟩
  have h' : Ev X M d pc (vl A ls) (ia A (t, z) :: st.map (ia A)) _ o τ := h
  show Ev X M d pc (vl A ls) (ia A (t + 100, z) :: st.map (ia A)) _ o τ
  rw [ia_q, oA_some hz, ← ia_rg hr]
  exact h') k
theorem Ec.gI {ci k ix : Nat} {C : String} {T : u_T} {N : Nat} {ref : String} {i : Int} (z : Int) (hz : c.2.1 ci k i = z) (hr : vwCl[ci]? = some (C, T, N)) (h3 : 3 ≤ ci ∧ ci < 100) (hk : k < N) (hw : Cond.fieldLink M.y.cls ix ref (T k).2.1 (T k).2.2.1 ∈ lw_tbl) (hs : ref = (T k).1 ∨ Cond.sameField ref (T k).1 (T k).2.1 (T k).2.2.1 ∈ lw_tbl) (hrf : isRf ci k = false)
    (d9 : decode M.cc pc = .ok (.getfield ix, 3)) (kk : Ec X ρ M d (pc + 3) ls ((0, z) :: st) c r c') : Ec X ρ M d pc ls ((ci, i) :: st) c r c' := Ec.pure (fun A σ B hC hl hst => by
  have hg := hst.hd.r ⟨by omega, h3.2⟩
  refine ⟨⟨hl, hst.tl.cons wv_i⟩, fun o τ h => ?_⟩
  show Ev X M d pc (vl A ls) (ia A (ci, i) :: st.map (ia A)) _ o τ
  rw [ia_rg hg]
  exact Er.gI (i32 z) (by rw [← hz]; exact hC.1.gi hg h3.1 hrf) hr (by omega) hk hw hs hrf (hC.1.kd hg) d9 h) kk
theorem Ec.gQ {ci k ix t : Nat} {C : String} {T : u_T} {N : Nat} {ref : String} {i : Int} (z : Int) (hz : c.2.1 ci k i = z) (ht : tgf ci k = t) (hr : vwCl[ci]? = some (C, T, N)) (h3 : 3 ≤ ci ∧ ci < 100) (hk : k < N) (hw : Cond.fieldLink M.y.cls ix ref (T k).2.1 (T k).2.2.1 ∈ lw_tbl) (hs : ref = (T k).1 ∨ Cond.sameField ref (T k).1 (T k).2.1 (T k).2.2.1 ∈ lw_tbl) (hrf : isRf ci k = true)
    (d9 : decode M.cc pc = .ok (.getfield ix, 3)) (kk : Ec X ρ M d (pc + 3) ls ((t + 100, z) :: st) c r c') : Ec X ρ M d pc ls ((ci, i) :: st) c r c' := Ec.pure (fun A σ B hC hl hst => by
  have hg := hst.hd.r ⟨by omega, h3.2⟩
  refine ⟨⟨hl, hst.tl.cons (wv_q (by rw [← hz, ← ht]; exact hC.1.rr hg h3.1 hrf))⟩, fun o τ h => ?_⟩
  have h' : Ev X M d (pc + 3) (vl A ls) (ia A (t + 100, z) :: st.map (ia A)) _ o τ := h
  rw [ia_q] at h'
  show Ev X M d pc (vl A ls) (ia A (ci, i) :: st.map (ia A)) _ o τ
  rw [ia_rg hg]
  exact Er.gR (oA A t z) (by rw [← hz, ← ht]; exact hC.1.gq hg h3.1 hrf) hr (by omega) hk hw hs hrf (hC.1.kd hg) d9 h') kk
theorem Ec.gL {ci k ix t : Nat} {C : String} {T : u_T} {N : Nat} {ref : String} {i : Int} (z : Int) (hz : Fx0 c → rg c ci i → c.2.1 ci k i = z ∧ z ≠ -1) (ht : tgf ci k = t) (h100 : 2 ≤ t ∧ t < 100) (hr : vwCl[ci]? = some (C, T, N)) (h3 : 3 ≤ ci ∧ ci < 100) (hk : k < N) (hw : Cond.fieldLink M.y.cls ix ref (T k).2.1 (T k).2.2.1 ∈ lw_tbl) (hs : ref = (T k).1 ∨ Cond.sameField ref (T k).1 (T k).2.1 (T k).2.2.1 ∈ lw_tbl) (hrf : isRf ci k = true)
    (d9 : decode M.cc pc = .ok (.getfield ix, 3)) (kk : Ec X ρ M d (pc + 3) ls ((t, z) :: st) c r c') : Ec X ρ M d pc ls ((ci, i) :: st) c r c' := by
  intro A σ B hC hl hst
  have hg := hst.hd.r ⟨by omega, h3.2⟩
  obtain ⟨e1, e2⟩ := hz hC.2 hg
  exact Ec.gQ z e1 ht hr h3 hk hw hs hrf d9 (Ec.nns e2 h100 kk) A σ B hC hl hst
theorem Ec.pI {ci k ix : Nat} {C : String} {T : u_T} {N : Nat} {ref : String} {i z : Int} (hsf : sf0 ci k = false) (hr : vwCl[ci]? = some (C, T, N)) (h3 : 3 ≤ ci ∧ ci < 100) (hk : k < N) (hw : Cond.fieldLink M.y.cls ix ref (T k).2.1 (T k).2.2.1 ∈ lw_tbl) (hs : ref = (T k).1 ∨ Cond.sameField ref (T k).1 (T k).2.1 (T k).2.2.1 ∈ lw_tbl) (hfin : (T k).2.2.2 = false ∨ (M.y.name = "<init>" ∧ (T k).1 = M.y.cls)) (hrf : isRf ci k = false) (hn : narrow (ftab ci k) (.int (i32 z)) = .int (i32 z)) (hfit : fits (ftab ci k) (.int (i32 z)) = true)
    (d9 : decode M.cc pc = .ok (.putfield ix, 3)) (kk : Ec X ρ M d (pc + 3) ls st (cput c ci k i z) r c') : Ec X ρ M d pc ls ((0, z) :: (ci, i) :: st) c r c' := by
  intro A σ B hC hl hst
  have hg := hst.tl.hd.r ⟨by omega, h3.2⟩
  obtain ⟨τ, A', B', h1, h2⟩ := kk A _ B ⟨hC.1.put hg h3.1 hrf, hC.2.put hsf⟩ hl hst.tl.tl
  refine ⟨τ, A', B', ?_, h2⟩
  show Ev X M d pc (vl A ls) (.int (i32 z) :: ia A (ci, i) :: st.map (ia A)) _ _ τ
  rw [ia_rg hg]
  exact Ev.pI hr (by omega) hk hw hs hfin hrf hn hfit (hC.1.kd hg) d9 h1
theorem Ec.pR {ci k ix t : Nat} {C : String} {T : u_T} {N : Nat} {ref : String} {i z : Int} {x : AV} (hx : isR x t z) (ht : tgf ci k = t) (hsf : sf0 ci k = false) (hr : vwCl[ci]? = some (C, T, N)) (h3 : 3 ≤ ci ∧ ci < 100) (hk : k < N) (hw : Cond.fieldLink M.y.cls ix ref (T k).2.1 (T k).2.2.1 ∈ lw_tbl) (hs : ref = (T k).1 ∨ Cond.sameField ref (T k).1 (T k).2.1 (T k).2.2.1 ∈ lw_tbl) (hfin : (T k).2.2.2 = false ∨ (M.y.name = "<init>" ∧ (T k).1 = M.y.cls)) (hrf : isRf ci k = true)
    (d9 : decode M.cc pc = .ok (.putfield ix, 3)) (kk : Ec X ρ M d (pc + 3) ls st (cput c ci k i z) r c') : Ec X ρ M d pc ls (x :: (ci, i) :: st) c r c' := by
  intro A σ B hC hl hst
  have hg := hst.tl.hd.r ⟨by omega, h3.2⟩
  have hq := hx.at (A := A) hst.hd
  obtain ⟨τ, A', B', h1, h2⟩ := kk A _ B ⟨hC.1.putq hg h3.1 hrf (by rw [ht]; exact hq.2), hC.2.put hsf⟩ hl hst.tl.tl
  refine ⟨τ, A', B', ?_, h2⟩
  show Ev X M d pc (vl A ls) (ia A x :: ia A (ci, i) :: st.map (ia A)) _ _ τ
  rw [ia_rg hg, hq.1]
  rw [ht] at h1
  exact Ev.pR hr (by omega) hk hw hs hfin hrf (hC.1.kd hg) d9 h1
theorem Ec.acmp_eq_t {t : Nat} {x y : AV} {zx zy : Int} {off : Int} {tgt : Nat} (hx : isR x t zx) (hy : isR y t zy) (d9 : decode M.cc pc = .ok (.if_acmp .eq off, 3)) (ht : (pc : Int) + off = (tgt : Int)) (hc : zx = zy) (k : Ec X ρ M d tgt ls st c r c') : Ec X ρ M d pc ls (y :: x :: st) c r c' := Ec.pure (fun A σ B hC hl hs => by
  have qx := hx.at (A := A) hs.tl.hd
  have qy := hy.at (A := A) hs.hd
  refine ⟨⟨hl, hs.tl.tl⟩, fun o τ h => ?_⟩
  show Ev X M d pc (vl A ls) (ia A y :: ia A x :: st.map (ia A)) _ o τ
  rw [qx.1, qy.1]
  exact Ev.acmp_eq_t d9 ht ((oA_inj hC.1 qx.2 qy.2).mpr hc) h) k
theorem Ec.acmp_eq_f {t : Nat} {x y : AV} {zx zy : Int} {off : Int} {tgt : Nat} (hx : isR x t zx) (hy : isR y t zy) (d9 : decode M.cc pc = .ok (.if_acmp .eq off, 3)) (ht : (pc : Int) + off = (tgt : Int)) (hc : ¬ (zx = zy)) (k : Ec X ρ M d (pc + 3) ls st c r c') : Ec X ρ M d pc ls (y :: x :: st) c r c' := Ec.pure (fun A σ B hC hl hs => by
  have qx := hx.at (A := A) hs.tl.hd
  have qy := hy.at (A := A) hs.hd
  refine ⟨⟨hl, hs.tl.tl⟩, fun o τ h => ?_⟩
  show Ev X M d pc (vl A ls) (ia A y :: ia A x :: st.map (ia A)) _ o τ
  rw [qx.1, qy.1]
  exact Ev.acmp_eq_f d9 ht (fun e => hc ((oA_inj hC.1 qx.2 qy.2).mp e)) h) k
theorem Ec.acmp_ne_t {t : Nat} {x y : AV} {zx zy : Int} {off : Int} {tgt : Nat} (hx : isR x t zx) (hy : isR y t zy) (d9 : decode M.cc pc = .ok (.if_acmp .ne off, 3)) (ht : (pc : Int) + off = (tgt : Int)) (hc : ¬ zx = zy) (k : Ec X ρ M d tgt ls st c r c') : Ec X ρ M d pc ls (y :: x :: st) c r c' := Ec.pure (fun A σ B hC hl hs => by
  have qx := hx.at (A := A) hs.tl.hd
  have qy := hy.at (A := A) hs.hd
  refine ⟨⟨hl, hs.tl.tl⟩, fun o τ h => ?_⟩
  show Ev X M d pc (vl A ls) (ia A y :: ia A x :: st.map (ia A)) _ o τ
  rw [qx.1, qy.1]
  exact Ev.acmp_ne_t d9 ht (fun e => hc ((oA_inj hC.1 qx.2 qy.2).mp e)) h) k
theorem Ec.acmp_ne_f {t : Nat} {x y : AV} {zx zy : Int} {off : Int} {tgt : Nat} (hx : isR x t zx) (hy : isR y t zy) (d9 : decode M.cc pc = .ok (.if_acmp .ne off, 3)) (ht : (pc : Int) + off = (tgt : Int)) (hc : ¬ (¬ zx = zy)) (k : Ec X ρ M d (pc + 3) ls st c r c') : Ec X ρ M d pc ls (y :: x :: st) c r c' := Ec.pure (fun A σ B hC hl hs => by
  have qx := hx.at (A := A) hs.tl.hd
  have qy := hy.at (A := A) hs.hd
  refine ⟨⟨hl, hs.tl.tl⟩, fun o τ h => ?_⟩
  show Ev X M d pc (vl A ls) (ia A y :: ia A x :: st.map (ia A)) _ o τ
  rw [qx.1, qy.1]
  exact Ev.acmp_ne_f d9 ht (fun e => hc (fun e2 => e ((oA_inj hC.1 qx.2 qy.2).mpr e2))) h) k
theorem Ec.ifnull_t {t : Nat} {z : Int} {off : Int} {tgt : Nat} (d9 : decode M.cc pc = .ok (.ifnull off, 3)) (ht : (pc : Int) + off = (tgt : Int)) (hz : z = -1) (k : Ec X ρ M d tgt ls st c r c') : Ec X ρ M d pc ls ((t + 100, z) :: st) c r c' := Ec.pure (fun A _ _ _ hl hs => ⟨⟨hl, hs.tl⟩, fun o τ h => by
  subst hz
  show Ev X M d pc (vl A ls) (ia A (t + 100, -1) :: st.map (ia A)) _ o τ
  rw [ia_q]
  exact Ev.ifnull_t d9 ht h⟩) k
theorem Ec.ifnull_f {t : Nat} {z : Int} {off : Int} {tgt : Nat} (d9 : decode M.cc pc = .ok (.ifnull off, 3)) (_ht : (pc : Int) + off = (tgt : Int)) (hz : ¬ z = -1) (k : Ec X ρ M d (pc + 3) ls st c r c') : Ec X ρ M d pc ls ((t + 100, z) :: st) c r c' := Ec.pure (fun A _ _ _ hl hs => ⟨⟨hl, hs.tl⟩, fun o τ h => by
  show Ev X M d pc (vl A ls) (ia A (t + 100, z) :: st.map (ia A)) _ o τ
  rw [ia_q, oA_some hz]
  exact Ev.ifnull_f d9 h⟩) k
theorem Ec.ifnonnull_t {t : Nat} {z : Int} {off : Int} {tgt : Nat} (d9 : decode M.cc pc = .ok (.ifnonnull off, 3)) (ht : (pc : Int) + off = (tgt : Int)) (hz : ¬ z = -1) (k : Ec X ρ M d tgt ls st c r c') : Ec X ρ M d pc ls ((t + 100, z) :: st) c r c' := Ec.pure (fun A _ _ _ hl hs => ⟨⟨hl, hs.tl⟩, fun o τ h => by
  show Ev X M d pc (vl A ls) (ia A (t + 100, z) :: st.map (ia A)) _ o τ
  rw [ia_q, oA_some hz]
  exact Ev.ifnonnull_t d9 ht h⟩) k
theorem Ec.ifnonnull_f {t : Nat} {z : Int} {off : Int} {tgt : Nat} (d9 : decode M.cc pc = .ok (.ifnonnull off, 3)) (_ht : (pc : Int) + off = (tgt : Int)) (hz : z = -1) (k : Ec X ρ M d (pc + 3) ls st c r c') : Ec X ρ M d pc ls ((t + 100, z) :: st) c r c' := Ec.pure (fun A _ _ _ hl hs => ⟨⟨hl, hs.tl⟩, fun o τ h => by
  subst hz
  show Ev X M d pc (vl A ls) (ia A (t + 100, -1) :: st.map (ia A)) _ o τ
  rw [ia_q]
  exact Ev.ifnonnull_f d9 h⟩) k
theorem Ec.cast {ci ix : Nat} {C : String} {T : u_T} {N : Nat} {i : Int} (hr : vwCl[ci]? = some (C, T, N)) (h3 : 2 ≤ ci ∧ ci < 100) (hw : Cond.classLink M.y.cls ix C ∈ lw_tbl) (d9 : decode M.cc pc = .ok (.checkcast ix, 3)) (k : Ec X ρ M d (pc + 3) ls ((ci, i) :: st) c r c') : Ec X ρ M d pc ls ((ci, i) :: st) c r c' := Ec.pure (fun A σ B hC hl hs => by
  have hg := hs.hd.r h3
  refine ⟨⟨hl, hs⟩, fun o τ h => ?_⟩
  have h' : Ev X M d (pc + 3) (vl A ls) (ia A (ci, i) :: st.map (ia A)) _ o τ := h
  rw [ia_rg hg] at h'
  show Ev X M d pc (vl A ls) (ia A (ci, i) :: st.map (ia A)) _ o τ
  rw [ia_rg hg]
  exact Ev.cast hr hw (hC.1.kd hg) d9 h') k
theorem Ec.max {ix : Nat} {x y : Int} (hx : R32 x) (hy : R32 y) (hw : Cond.methodLink M.y.cls ix Lib.Math.max.name ∈ lw_tbl) (hd : 1 ≤ d) (hsz : st.length ≤ 60) (d9 : decode M.cc pc = .ok (.invokestatic ix, 3)) (k : Ec X ρ M d (pc + 3) ls ((0, if x < y then y else x) :: st) c r c') : Ec X ρ M d pc ls ((0, y) :: (0, x) :: st) c r c' := Ec.pure (fun _ _ _ _ hl hs => ⟨⟨hl, hs.tl.tl.cons wv_i⟩, fun _ _ h => Er.max hx hy hw hd (by rw [ws_cat]; exact hsz) d9 h⟩) k
theorem Ec.min {ix : Nat} {x y : Int} (hx : R32 x) (hy : R32 y) (hw : Cond.methodLink M.y.cls ix Lib.Math.min.name ∈ lw_tbl) (hd : 1 ≤ d) (hsz : st.length ≤ 60) (d9 : decode M.cc pc = .ok (.invokestatic ix, 3)) (k : Ec X ρ M d (pc + 3) ls ((0, if y < x then y else x) :: st) c r c') : Ec X ρ M d pc ls ((0, y) :: (0, x) :: st) c r c' := Ec.pure (fun _ _ _ _ hl hs => ⟨⟨hl, hs.tl.tl.cons wv_i⟩, fun _ _ h => Er.min hx hy hw hd (by rw [ws_cat]; exact hsz) d9 h⟩) k
theorem Ec.iret {z : Int} {ty : FieldType} (hr : M.rt = some ty) (hn : narrow ty (.int (i32 z)) = .int (i32 z)) (d9 : decode M.cc pc = .ok (.ireturn, 1)) (ho : r = .inl (some (0, z))) (hc : c' = c) : Ec X ρ M d pc ls [(0, z)] c r c' := by
  subst ho hc
  exact fun A σ B hC _ _ => ⟨σ, A, B, Ev.iret hr hn d9, hC, EX.rfl', fun x hx => by cases hx; exact wv_i⟩
theorem Ec.aret {x : AV} {ty : FieldType} (h2 : 2 ≤ x.1) (hr : M.rt = some ty) (ht : ty.isReference = true) (d9 : decode M.cc pc = .ok (.areturn, 1)) (ho : r = .inl (some x)) (hc : c' = c) : Ec X ρ M d pc ls [x] c r c' := by
  subst ho hc
  refine fun A σ B hC _ hs => ⟨σ, A, B, ?_, hC, EX.rfl', fun y hy => by cases hy; exact hs.hd⟩
  obtain ⟨q, hq⟩ := ia_ref (A := A) h2
  show Ev X M d pc (vl A ls) [ia A x] σ (.inl (some (ia A x))) σ
  rw [hq]
  exact Ev.aret hr ht d9
theorem Ec.vret (hr : M.rt = none) (d9 : decode M.cc pc = .ok (.return_, 1)) (ho : r = .inl none) (hc : c' = c) : Ec X ρ M d pc ls [] c r c' := by
  subst ho hc
  exact fun A σ B hC _ _ => ⟨σ, A, B, Ev.vret hr d9, hC, EX.rfl', fun y hy => by cases hy⟩
theorem Ec.thr {ik is ic i1 : Nat} {E tx : String} {b1 : ByteArray} (hT : thrW ik ic E i1 b1) (hM : M.y.cls = "Hopyard") (hh : M.hh = []) (hd : 6 ≤ d) (hsm : st.length ≤ 60) (hs : Cond.stringRef "Hopyard" is tx ∈ lw_tbl)
    (d0 : decode M.cc pc = .ok (.new ik, 3)) (d3 : decode M.cc (pc + 3) = .ok (.dup, 1)) (d4 : decode M.cc (pc + 4) = .ok (.ldc is, 2)) (d6 : decode M.cc (pc + 6) = .ok (.invokespecial ic, 3)) (d9 : decode M.cc (pc + 9) = .ok (.athrow, 1)) (ho : r = .inr E) (hc : c' = cexc c) : Ec X ρ M d pc ls st c r c' := by
  subst ho hc
  exact fun A σ B hC _ _ => ⟨σ.ex, A, B, Ev.thr hT hM hh hd (by rw [ws_cat]; exact hsm) hs d0 d3 d4 d6 d9, ⟨hC.1.exc, hC.2.exc⟩, EX.rfl', fun y hy => by cases hy⟩
theorem Ec.thrW {ik is ic i1 : Nat} {E tx : String} {b1 : ByteArray} (hT : thrW ik ic E i1 b1) (hM : M.y.cls = "Hopyard") (hh : M.hh = []) (hd : 6 ≤ d) (hsm : st.length ≤ 60) (hs : Cond.stringRef "Hopyard" is tx ∈ lw_tbl)
    (d0 : decode M.cc pc = .ok (.new ik, 3)) (d3 : decode M.cc (pc + 3) = .ok (.dup, 1)) (d4 : decode M.cc (pc + 4) = .ok (.ldc_w is, 3)) (d6 : decode M.cc (pc + 7) = .ok (.invokespecial ic, 3)) (d9 : decode M.cc (pc + 10) = .ok (.athrow, 1)) (ho : r = .inr E) (hc : c' = cexc c) : Ec X ρ M d pc ls st c r c' := by
  subst ho hc
  exact fun A σ B hC _ _ => ⟨σ.ex, A, B, Ev.thrW hT hM hh hd (by rw [ws_cat]; exact hsm) hs d0 d3 d4 d6 d9, ⟨hC.1.exc, hC.2.exc⟩, EX.rfl', fun y hy => by cases hy⟩
theorem map_call {A : Nat → Int → Nat} {as : List AV} {x : AV} : (as.reverse ++ x :: st).map (ia A) = (as.map (ia A)).reverse ++ ia A x :: st.map (ia A) := by simp [List.map_reverse]
theorem WS.call {as : List AV} {x : AV} (h : WS c (as.reverse ++ x :: st)) : WS c (x :: as) ∧ WS c st := ⟨WS.cons (h.app.2.hd) (fun y hy => h.app.1 y (List.mem_reverse.mpr hy)), h.app.2.tl⟩
theorem WS.ret {v : Option AV} (h : wr c (.inl v)) (hs : WS c st) : WS c (v.toList ++ st) := by
  cases v with
  | none => exact hs
  | some x => exact WS.cons (h x rfl) hs
theorem ret_map {A : Nat → Int → Nat} {v : Option AV} : (v.toList ++ st).map (ia A) = (v.map (ia A)).toList ++ st.map (ia A) := by cases v <;> rfl
theorem ir_v {A : Nat → Int → Nat} {v : Option AV} : ir A (.inl v) = .inl (v.map (ia A)) := by cases v <;> rfl
/-- a call of a method of the class's objects -/
theorem Ec.cv {ci ix n d' : Nat} {b : Int} {C : String} {T : u_T} {N : Nat} {M' : Mt} {as : List AV} {st0 : List AV} {v : Option AV} {c1 : Cs} (hm : cokD M' n) (hr : vwCl[ci]? = some (C, T, N)) (h3 : 2 ≤ ci ∧ ci < 100) (hw : Cond.methodLink M.y.cls ix M'.y ∈ lw_tbl) (hi : Cond.instanceMethod M'.y ∈ lw_tbl) (hs : Cond.selects C M'.y M'.y ∈ lw_tbl)
    (d9 : decode M.cc pc = .ok (.invokevirtual ix, 3)) (hst : st0 = as.reverse ++ (ci, b) :: st) (hn : as.length = n) (hsm : st.length ≤ 8) (hd : d' + 1 ≤ d) (hK : Kc X ρ M' d' ((ci, b) :: as) c (.inl v) c1) (k : Ec X ρ M d (pc + 3) ls (v.toList ++ st) c1 r c') : Ec X ρ M d pc ls st0 c r c' := by
  subst hst
  intro A σ B hC hl hs0
  obtain ⟨w1, w2⟩ := WS.call hs0
  obtain ⟨τ1, A1, B1, g1, g2, g3, g4⟩ := hK A σ B hC w1
  obtain ⟨τ, A', B', k1, k2, k3, k4⟩ := k A1 τ1 B1 g2 (g3.ls hl).2 (WS.ret g4 (g3.st w2).2)
  refine ⟨τ, A', B', ?_, k2, g3.trans k3, k4⟩
  have hg := w1.hd.r h3
  rw [(g3.ls hl).1, ret_map, (g3.st w2).1] at k1
  rw [ir_v] at g1
  rw [map_call, ia_rg hg]
  have g1' : Ct X M' d' (ia A (ci, b) :: as.map (ia A)) σ (.inl (v.map (ia A1))) τ1 := g1
  rw [ia_rg hg] at g1'
  exact Ev.callV hm hr (hC.1.kd hg) hw hi hs d9 rfl (by rw [List.length_map]; exact hn) (by rw [ws_cat]; exact hsm) hd g1' k1
theorem Ec.cvx {ci ix n d' : Nat} {b : Int} {C : String} {T : u_T} {N : Nat} {M' : Mt} {as : List AV} {st0 : List AV} {E : String} {c1 : Cs} (hm : cokD M' n) (hr : vwCl[ci]? = some (C, T, N)) (h3 : 2 ≤ ci ∧ ci < 100) (hw : Cond.methodLink M.y.cls ix M'.y ∈ lw_tbl) (hi : Cond.instanceMethod M'.y ∈ lw_tbl) (hs : Cond.selects C M'.y M'.y ∈ lw_tbl)
    (d9 : decode M.cc pc = .ok (.invokevirtual ix, 3)) (hst : st0 = as.reverse ++ (ci, b) :: st) (hn : as.length = n) (hsm : st.length ≤ 8) (hd : d' + 1 ≤ d) (hh : M.hh = []) (hK : Kc X ρ M' d' ((ci, b) :: as) c (.inr E) c1) (ho : r = .inr E) (hc : c' = c1) : Ec X ρ M d pc ls st0 c r c' := by
  subst hst ho hc
  intro A σ B hC hl hs0
  obtain ⟨w1, w2⟩ := WS.call hs0
  obtain ⟨τ1, A1, B1, g1, g2, g3, g4⟩ := hK A σ B hC w1
  refine ⟨τ1, A1, B1, ?_, g2, g3, g4⟩
  have hg := w1.hd.r h3
  rw [map_call, ia_rg hg]
  have g1' : Ct X M' d' (ia A (ci, b) :: as.map (ia A)) σ (.inr E) τ1 := g1
  rw [ia_rg hg] at g1'
  exact Ev.callVx hm hr (hC.1.kd hg) hw hi hs d9 rfl (by rw [List.length_map]; exact hn) (by rw [ws_cat]; exact hsm) hd hh g1'
theorem Ec.cs {ix n d' : Nat} {M' : Mt} {as : List AV} {st0 : List AV} {v : Option AV} {c1 : Cs} (hm : cokD M' n) (hw : Cond.methodLink M.y.cls ix M'.y ∈ lw_tbl) (hi : Cond.static M'.y ∈ lw_tbl)
    (d9 : decode M.cc pc = .ok (.invokestatic ix, 3)) (hst : st0 = as.reverse ++ st) (hn : as.length = n) (hsm : st.length ≤ 8) (hd : d' + 1 ≤ d) (hK : Kc X ρ M' d' as c (.inl v) c1) (k : Ec X ρ M d (pc + 3) ls (v.toList ++ st) c1 r c') : Ec X ρ M d pc ls st0 c r c' := by
  subst hst
  intro A σ B hC hl hs0
  obtain ⟨τ1, A1, B1, g1, g2, g3, g4⟩ := hK A σ B hC (fun y hy => hs0.app.1 y (List.mem_reverse.mpr hy))
  obtain ⟨τ, A', B', k1, k2, k3, k4⟩ := k A1 τ1 B1 g2 (g3.ls hl).2 (WS.ret g4 (g3.st hs0.app.2).2)
  refine ⟨τ, A', B', ?_, k2, g3.trans k3, k4⟩
  rw [(g3.ls hl).1, ret_map, (g3.st hs0.app.2).1] at k1
  rw [ir_v] at g1
  rw [List.map_append, List.map_reverse]
  exact Ev.callS hm hw hi d9 rfl (by rw [List.length_map]; exact hn) (by rw [ws_cat]; exact hsm) hd g1 k1
theorem Ec.csN {ix n d' : Nat} {host : String} {M' : Mt} {as : List AV} {st0 : List AV} {v : Option AV} {c1 : Cs} (hm : cokD M' n) (hw : Cond.methodLinkNest M.y.cls ix M'.y host ∈ lw_tbl) (hi : Cond.static M'.y ∈ lw_tbl)
    (d9 : decode M.cc pc = .ok (.invokestatic ix, 3)) (hst : st0 = as.reverse ++ st) (hn : as.length = n) (hsm : st.length ≤ 8) (hd : d' + 1 ≤ d) (hK : Kc X ρ M' d' as c (.inl v) c1) (k : Ec X ρ M d (pc + 3) ls (v.toList ++ st) c1 r c') : Ec X ρ M d pc ls st0 c r c' := by
  subst hst
  intro A σ B hC hl hs0
  obtain ⟨τ1, A1, B1, g1, g2, g3, g4⟩ := hK A σ B hC (fun y hy => hs0.app.1 y (List.mem_reverse.mpr hy))
  obtain ⟨τ, A', B', k1, k2, k3, k4⟩ := k A1 τ1 B1 g2 (g3.ls hl).2 (WS.ret g4 (g3.st hs0.app.2).2)
  refine ⟨τ, A', B', ?_, k2, g3.trans k3, k4⟩
  rw [(g3.ls hl).1, ret_map, (g3.st hs0.app.2).1] at k1
  rw [ir_v] at g1
  rw [List.map_append, List.map_reverse]
  exact Ev.callSN hm hw hi d9 rfl (by rw [List.length_map]; exact hn) (by rw [ws_cat]; exact hsm) hd g1 k1
theorem Ec.ci {ci ix n d' : Nat} {b : Int} {M' : Mt} {as : List AV} {st0 : List AV} {c1 : Cs} (hm : cokD M' n) (hrt : M'.rt = none) (hnm : M'.y.name = "<init>") (h3 : 2 ≤ ci ∧ ci < 100) (hw : Cond.methodLink M.y.cls ix M'.y ∈ lw_tbl) (hi : Cond.instanceMethod M'.y ∈ lw_tbl)
    (d9 : decode M.cc pc = .ok (.invokespecial ix, 3)) (hst : st0 = as.reverse ++ (ci, b) :: st) (hn : as.length = n) (hsm : st.length ≤ 8) (hd : d' + 1 ≤ d) (hK : Kc X ρ M' d' ((ci, b) :: as) c (.inl none) c1) (k : Ec X ρ M d (pc + 3) ls st c1 r c') : Ec X ρ M d pc ls st0 c r c' := by
  subst hst
  intro A σ B hC hl hs0
  obtain ⟨w1, w2⟩ := WS.call hs0
  obtain ⟨τ1, A1, B1, g1, g2, g3, g4⟩ := hK A σ B hC w1
  obtain ⟨τ, A', B', k1, k2, k3, k4⟩ := k A1 τ1 B1 g2 (g3.ls hl).2 (g3.st w2).2
  refine ⟨τ, A', B', ?_, k2, g3.trans k3, k4⟩
  have hg := w1.hd.r h3
  rw [(g3.ls hl).1, (g3.st w2).1] at k1
  rw [map_call, ia_rg hg]
  have g1' : Ct X M' d' (ia A (ci, b) :: as.map (ia A)) σ (.inl none) τ1 := g1
  rw [ia_rg hg] at g1'
  exact Ev.callI hm hrt hnm hw hi d9 rfl (by rw [List.length_map]; exact hn) (by rw [ws_cat]; exact hsm) hd g1' k1
/-- a call through List -/
theorem Ec.cf {ix cnt n d' : Nat} {b : Int} {x : MethodName} {M' : Mt} {as : List AV} {st0 : List AV} {v : Option AV} {c1 : Cs} (hm : cokF x M' n) (hw : Cond.methodLink M.y.cls ix x ∈ lw_tbl)
    (d9 : decode M.cc pc = .ok (.invokeinterface ix cnt, 5)) (hst : st0 = as.reverse ++ (2, b) :: st) (hn : as.length = n) (hsm : st.length ≤ 8) (hd : d' + 1 ≤ d) (hK : Kc X ρ M' d' ((2, b) :: as) c (.inl v) c1) (k : Ec X ρ M d (pc + 5) ls (v.toList ++ st) c1 r c') : Ec X ρ M d pc ls st0 c r c' := by
  subst hst
  intro A σ B hC hl hs0
  obtain ⟨w1, w2⟩ := WS.call hs0
  obtain ⟨τ1, A1, B1, g1, g2, g3, g4⟩ := hK A σ B hC w1
  obtain ⟨τ, A', B', k1, k2, k3, k4⟩ := k A1 τ1 B1 g2 (g3.ls hl).2 (WS.ret g4 (g3.st w2).2)
  refine ⟨τ, A', B', ?_, k2, g3.trans k3, k4⟩
  have hg := w1.hd.r ⟨by omega, by omega⟩
  rw [(g3.ls hl).1, ret_map, (g3.st w2).1] at k1
  rw [ir_v] at g1
  rw [map_call, ia_rg hg]
  have g1' : Ct X M' d' (ia A (2, b) :: as.map (ia A)) σ (.inl (v.map (ia A1))) τ1 := g1
  rw [ia_rg hg] at g1'
  exact Ev.callF hm (hC.1.kd hg) hw d9 rfl (by rw [List.length_map]; exact hn) (by rw [ws_cat]; exact hsm) hd g1' k1
theorem Ec.new {ci ix : Nat} {C : String} {T : u_T} {N : Nat} (hr : vwCl[ci]? = some (C, T, N)) (h3 : 3 ≤ ci ∧ ci ≤ 13) (h8 : ci ≠ 8 ∧ ci ≠ 12 ∧ ci ≠ 13) (hN : N ≤ 60) (hw : Cond.classLink M.y.cls ix C ∈ lw_tbl) (hw2 : Cond.instantiable C N ∈ lw_tbl) (hw3 : Cond.initialized C ∈ lw_tbl) (d9 : decode M.cc pc = .ok (.new ix, 3)) (k : Ec X ρ M d (pc + 3) ls ((ci, c.1 ci) :: st) (cnew c ci) r c') : Ec X ρ M d pc ls st c r c' := by
  intro A σ B hC hl hs
  have hE : EX c A (cnew c ci) (upA A ci (c.1 ci) σ.sz) := fun cj j hj => ⟨upA_old hj, rg_old hj⟩
  have hg : rg (cnew c ci) ci (c.1 ci) := ⟨⟨by omega, h3.2⟩, hC.2.1.1 ci, by
    show c.1 ci < (if ci = ci then c.1 ci + 1 else c.1 ci)
    rw [if_pos rfl]
    omega⟩
  obtain ⟨τ, A', B', k1, k2, k3, k4⟩ := k (upA A ci (c.1 ci) σ.sz) (σ.al (ci + 1) 0 N) B ⟨hC.1.new h3 hN (hC.2.1.1 ci), hC.2.new h8⟩ (hE.ls hl).2 (WS.cons (wv_r hg) (hE.st hs).2)
  refine ⟨τ, A', B', ?_, k2, hE.trans k3, k4⟩
  have k1' : Ev X M d (pc + 3) (vl (upA A ci (c.1 ci) σ.sz) ls) (ia (upA A ci (c.1 ci) σ.sz) (ci, c.1 ci) :: st.map (ia (upA A ci (c.1 ci) σ.sz))) (σ.al (ci + 1) 0 N) (ir A' r) τ := k1
  rw [(hE.ls hl).1, (hE.st hs).1, ia_rg hg, upA_new] at k1'
  exact Ev.new hr (by omega) hw hw2 hw3 d9 k1'
theorem Ec.oinit {ix : Nat} {x : AV} (hx : 2 ≤ x.1 ∧ x.1 < 100) (hw : Cond.methodLink M.y.cls ix Lib.objectInit ∈ lw_tbl) (hd : 1 ≤ d) (hsz : st.length ≤ 60) (d9 : decode M.cc pc = .ok (.invokespecial ix, 3)) (k : Ec X ρ M d (pc + 3) ls st c r c') : Ec X ρ M d pc ls (x :: st) c r c' := Ec.pure (fun A _ _ _ hl hs => ⟨⟨hl, hs.tl⟩, fun o τ h => by
  obtain ⟨t, z⟩ := x
  have hg := hs.hd.r hx
  show Ev X M d pc (vl A ls) (ia A (t, z) :: st.map (ia A)) _ o τ
  rw [ia_rg hg]
  exact Ev.objInit hw hd (by rw [ws_cat]; exact hsz) d9 h⟩) k
theorem Kc.wk {as as' : List AV} (h : ∀ c A, WS c as' → WS c as ∧ as.map (ia A) = as'.map (ia A)) (k : Kc X ρ M d as c r c') : Kc X ρ M d as' c r c' := fun A σ B hC hs => by
  obtain ⟨h1, h2⟩ := h c A hs
  rw [← h2]
  exact k A σ B hC h1
theorem wk0 {as as' : List AV} (h : ∀ c A, WS c as' → WS c as ∧ as.map (ia A) = as'.map (ia A)) {x : AV} : ∀ c A, WS c (x :: as') → WS c (x :: as) ∧ (x :: as).map (ia A) = (x :: as').map (ia A) := fun c A hs => by
  obtain ⟨h1, h2⟩ := h c A hs.tl
  exact ⟨WS.cons hs.hd h1, by show ia A x :: as.map (ia A) = ia A x :: as'.map (ia A); rw [h2]⟩
theorem wk1 {as as' : List AV} (h : ∀ c A, WS c as' → WS c as ∧ as.map (ia A) = as'.map (ia A)) {t : Nat} {z : Int} (ht : 2 ≤ t ∧ t < 100) : ∀ c A, WS c ((t, z) :: as') → WS c ((t + 100, z) :: as) ∧ ((t + 100, z) :: as).map (ia A) = ((t, z) :: as').map (ia A) := fun c A hs => by
  obtain ⟨h1, h2⟩ := h c A hs.tl
  have hr := hs.hd.r ht
  refine ⟨WS.cons (wv_q (Or.inr hr)) h1, ?_⟩
  show ia A (t + 100, z) :: as.map (ia A) = ia A (t, z) :: as'.map (ia A)
  rw [h2, ia_q, ia_rg hr, oA_some hr.nn]
theorem wkN : ∀ (c : Cs) (A : Nat → Int → Nat), WS c ([] : List AV) → WS c ([] : List AV) ∧ ([] : List AV).map (ia A) = ([] : List AV).map (ia A) := fun _ _ h => ⟨h, rfl⟩
end EC2
section KL
variable {X : Cx} {ρ : Hp} {c : Cs} {l : Int}
theorem Kc.pur {M : Mt} {d : Nat} {as : List AV} {v : Option AV} (h : ∀ A σ B, CS X ρ σ A c B → WS c as → Ct X M d (as.map (ia A)) σ (.inl (v.map (ia A))) σ ∧ wr c (.inl v)) : Kc X ρ M d as c (.inl v) c := fun A σ B hC hs => by
  obtain ⟨h1, h2⟩ := h A σ B hC hs
  exact ⟨σ, A, B, by rw [ir_v]; exact h1, hC, EX.rfl', h2⟩
theorem rg2 {A : Nat → Int → Nat} {as : List AV} (h : WS c ((2, l) :: as)) : (0 ≤ l ∧ l < c.1 2) ∧ ia A (2, l) = va_rf (some (A 2 l)) := by
  have hr := h.hd.r ⟨by omega, by omega⟩
  exact ⟨hr.2, ia_rg hr⟩
theorem kl_size : Kc X ρ m_Jx4a65c_size_8abf5 1 [(2, l)] c (.inl (some (0, ((c.2.2.1 l).length : Int)))) c := Kc.pur (fun A σ B hC hs => by
  obtain ⟨h1, h2⟩ := rg2 (A := A) hs
  refine ⟨?_, fun x hx => by cases hx; exact wv_i⟩
  show Ct X _ 1 [ia A (2, l)] σ _ σ
  rw [h2]
  exact q_size hC.1 h1.1 h1.2)
theorem kl_empty : Kc X ρ m_Jx4a65c_isEmpty_aae02 1 [(2, l)] c (.inl (some (0, eb (c.2.2.1 l)))) c := Kc.pur (fun A σ B hC hs => by
  obtain ⟨h1, h2⟩ := rg2 (A := A) hs
  refine ⟨?_, fun x hx => by cases hx; exact wv_i⟩
  show Ct X _ 1 [ia A (2, l)] σ _ σ
  rw [h2]
  exact q_empty hC.1 h1.1 h1.2)
theorem elt_rg {σ : Hp} {A : Nat → Int → Nat} {B : Int → Nat} {t : Nat} {z : Int} (hC : CS X ρ σ A c B) (h1 : 0 ≤ l ∧ l < c.1 2) (ht : tel l = t) (hz : 0 ≤ z ∧ z < ((c.2.2.1 l).length : Int)) : rg c t (lget (c.2.2.1 l) z) := by
  have := hC.1.lm h1.1 h1.2 (lget_mem hz.1 hz.2)
  rwa [ht] at this
theorem kl_get {z : Int} {t : Nat} (ht : tel l = t) (hz : 0 ≤ z ∧ z < ((c.2.2.1 l).length : Int)) : Kc X ρ m_Jx4a65c_get_915e3 3 [(2, l), (0, z)] c (.inl (some (t, lget (c.2.2.1 l) z))) c := Kc.pur (fun A σ B hC hs => by
  obtain ⟨h1, h2⟩ := rg2 (A := A) hs
  have hr := elt_rg hC h1 ht hz
  refine ⟨?_, fun x hx => by cases hx; exact wv_r hr⟩
  show Ct X _ 3 [ia A (2, l), .int (i32 z)] σ (.inl (some (ia A (t, lget (c.2.2.1 l) z)))) σ
  rw [h2, ia_rg hr]
  exact q_get hC.1 h1.1 h1.2 ht hz.1 hz.2)
theorem kl_add {x : Int} {t : Nat} (ht : tel l = t) (hn : ((c.2.2.1 l).length : Int) ≤ 199) (h100 : 2 ≤ t ∧ t < 100) : Kc X ρ m_Jx4a65c_add_9ea2d 6 [(2, l), (t, x)] c (.inl (some (0, 1))) (clst c l (c.2.2.1 l ++ [x])) := fun A σ B hC hs => by
  obtain ⟨h1, h2⟩ := rg2 (A := A) hs
  have hr := hs.tl.hd.r h100
  obtain ⟨τ, B', g1, g2⟩ := q_add hC.1 h1.1 h1.2 ht hn hr
  refine ⟨τ, A, B', ?_, ⟨g2, hC.2⟩, fun _ _ h => ⟨rfl, h⟩, fun y hy => by cases hy; exact wv_i⟩
  show Ct X _ 6 [ia A (2, l), ia A (t, x)] σ _ τ
  rw [h2, ia_rg hr]
  exact g1
theorem kl_ins {x z : Int} {t : Nat} (ht : tel l = t) (hn : ((c.2.2.1 l).length : Int) ≤ 199) (h100 : 2 ≤ t ∧ t < 100) (hz : 0 ≤ z ∧ z ≤ ((c.2.2.1 l).length : Int)) : Kc X ρ m_Jx4a65c_add_7a177 6 [(2, l), (0, z), (t, x)] c (.inl none) (clst c l (insL (c.2.2.1 l) z.toNat x)) := fun A σ B hC hs => by
  obtain ⟨h1, h2⟩ := rg2 (A := A) hs
  have hr := hs.tl.tl.hd.r h100
  obtain ⟨τ, B', g1, g2⟩ := q_ins hC.1 h1.1 h1.2 ht hn hz.1 hz.2 hr
  refine ⟨τ, A, B', ?_, ⟨g2, hC.2⟩, fun _ _ h => ⟨rfl, h⟩, fun y hy => by cases hy⟩
  show Ct X _ 6 [ia A (2, l), .int (i32 z), ia A (t, x)] σ _ τ
  rw [h2, ia_rg hr]
  exact g1
theorem kl_rem {z : Int} {t : Nat} (ht : tel l = t) (hz : 0 ≤ z ∧ z < ((c.2.2.1 l).length : Int)) : Kc X ρ m_Jx4a65c_remove_915e3 3 [(2, l), (0, z)] c (.inl (some (t, lget (c.2.2.1 l) z))) (clst c l (remL (c.2.2.1 l) z.toNat)) := fun A σ B hC hs => by
  obtain ⟨h1, h2⟩ := rg2 (A := A) hs
  have hr := elt_rg hC h1 ht hz
  obtain ⟨τ, B', g1, g2⟩ := q_rem hC.1 h1.1 h1.2 ht hz.1 hz.2
  refine ⟨τ, A, B', ?_, ⟨g2, hC.2⟩, fun _ _ h => ⟨rfl, h⟩, fun y hy => by cases hy; exact wv_r (c := clst c l (remL (c.2.2.1 l) z.toNat)) hr⟩
  show Ct X _ 3 [ia A (2, l), .int (i32 z)] σ (.inl (some (ia A (t, lget (c.2.2.1 l) z)))) τ
  rw [h2, ia_rg hr]
  exact g1
theorem kl_set {x z : Int} {t : Nat} (ht : tel l = t) (h100 : 2 ≤ t ∧ t < 100) (hz : 0 ≤ z ∧ z < ((c.2.2.1 l).length : Int)) : Kc X ρ m_Jx4a65c_set_bcc79 3 [(2, l), (0, z), (t, x)] c (.inl (some (t, lget (c.2.2.1 l) z))) (clst c l ((c.2.2.1 l).set z.toNat x)) := fun A σ B hC hs => by
  obtain ⟨h1, h2⟩ := rg2 (A := A) hs
  have hr := elt_rg hC h1 ht hz
  have hx := hs.tl.tl.hd.r h100
  obtain ⟨τ, B', g1, g2⟩ := q_set hC.1 h1.1 h1.2 ht hz.1 hz.2 hx
  refine ⟨τ, A, B', ?_, ⟨g2, hC.2⟩, fun _ _ h => ⟨rfl, h⟩, fun y hy => by cases hy; exact wv_r (c := clst c l ((c.2.2.1 l).set z.toNat x)) hr⟩
  show Ct X _ 3 [ia A (2, l), .int (i32 z), ia A (t, x)] σ (.inl (some (ia A (t, lget (c.2.2.1 l) z)))) τ
  rw [h2, ia_rg hr, ia_rg hx]
  exact g1
theorem kl_clear : Kc X ρ m_Jx4a65c_clear_da8c8 1 [(2, l)] c (.inl none) (clst c l []) := fun A σ B hC hs => by
  obtain ⟨h1, h2⟩ := rg2 (A := A) hs
  obtain ⟨τ, B', g1, g2⟩ := q_clear hC.1 h1.1 h1.2
  refine ⟨τ, A, B', ?_, ⟨g2, hC.2⟩, fun _ _ h => ⟨rfl, h⟩, fun y hy => by cases hy⟩
  show Ct X _ 1 [ia A (2, l)] σ _ τ
  rw [h2]
  exact g1
end KL
