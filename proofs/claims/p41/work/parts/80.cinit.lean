/-! the class's constructors: the state before it is whole (written by wip/whole/mk88.py) -/
def Nn (c : Cs) : Prop := ∀ ci, 0 ≤ c.1 ci
def CN (X : Cx) (ρ σ : Hp) (A : Nat → Int → Nat) (c : Cs) (B : Int → Nat) : Prop := CR X ρ σ A c B ∧ Nn c
def Er (X : Cx) (ρ : Hp) (M : Mt) (d pc : Nat) (ls : List (Option AV)) (st : List AV) (c : Cs) (r : Rr) (c' : Cs) : Prop :=
  ∀ A σ B, CN X ρ σ A c B → WL c ls → WS c st → ∃ τ A' B', Ev X M d pc (vl A ls) (st.map (ia A)) σ (ir A' r) τ ∧ CN X ρ τ A' c' B' ∧ EX c A c' A' ∧ wr c' r
def Kr (X : Cx) (ρ : Hp) (M : Mt) (d : Nat) (as : List AV) (c : Cs) (r : Rr) (c' : Cs) : Prop :=
  ∀ A σ B, CN X ρ σ A c B → WS c as → ∃ τ A' B', Ct X M d (as.map (ia A)) σ (ir A' r) τ ∧ CN X ρ τ A' c' B' ∧ EX c A c' A' ∧ wr c' r
theorem Nn.new {c : Cs} (h : Nn c) (ci : Nat) : Nn (cnew c ci) := fun a => by
  show 0 ≤ (if a = ci then c.1 a + 1 else c.1 a)
  have := h a
  split <;> omega
theorem Nn.newl {c : Cs} (h : Nn c) : Nn (cnewl c) := fun a => by
  show 0 ≤ (if a = 2 then c.1 a + 1 else c.1 a)
  have := h a
  split <;> omega
theorem Kr.of {X : Cx} {ρ : Hp} {M : Mt} {d : Nat} {as : List AV} {c c' : Cs} {r : Rr} (hp : plainName M.y.cls = true) (hh : M.hh = []) (hlen : as.length ≤ M.ml) (k : Er X ρ M d 0 (enA M.ml as) [] c r c') : Kr X ρ M d as c r c' := by
  intro A σ B hC hW
  obtain ⟨τ, A', B', h1, h2⟩ := k A σ B hC (fun x hx => by
    rcases List.mem_append.mp hx with e | e
    · obtain ⟨y, hy, e2⟩ := List.mem_map.mp e
      cases e2
      exact hW _ hy
    · have := List.eq_of_mem_replicate e
      cases this) (fun x hx => by cases hx)
  rw [enA_vl] at h1
  exact ⟨τ, A', B', Ct.of hp hh (by rw [List.length_map]; exact hlen) (fun v hv => by
    obtain ⟨x, -, e⟩ := List.mem_map.mp hv
    rw [← e]
    exact ia_cat) h1, h2⟩
section ER
variable {X : Cx} {ρ : Hp} {M : Mt} {d pc : Nat} {ls : List (Option AV)} {st : List AV} {c c' : Cs} {r : Rr}
theorem Er.pure {pc' : Nat} {ls' : List (Option AV)} {st' : List AV} (h : ∀ A σ B, CN X ρ σ A c B → WL c ls → WS c st → (WL c ls' ∧ WS c st') ∧ ∀ o τ, Ev X M d pc' (vl A ls') (st'.map (ia A)) σ o τ → Ev X M d pc (vl A ls) (st.map (ia A)) σ o τ) (k : Er X ρ M d pc' ls' st' c r c') : Er X ρ M d pc ls st c r c' := by
  intro A σ B hC hl hs
  obtain ⟨⟨h1, h2⟩, h3⟩ := h A σ B hC hl hs
  obtain ⟨τ, A', B', g1, g2⟩ := k A σ B hC h1 h2
  exact ⟨τ, A', B', h3 _ _ g1, g2⟩
theorem Er.const {n : Int} (d9 : decode M.cc pc = .ok (.iconst n, 1)) (k : Er X ρ M d (pc + 1) ls ((0, n) :: st) c r c') : Er X ρ M d pc ls st c r c' := Er.pure (fun _ _ _ _ hl hs => ⟨⟨hl, hs.cons wv_i⟩, fun _ _ h => Ei.const d9 h⟩) k
theorem Er.iload_n {n : Fin 4} {i : Nat} {z : Int} (d9 : decode M.cc pc = .ok (.iload_n n, 1)) (hi : (n : Nat) = i) (hx : ls[i]? = some (some (0, z))) (k : Er X ρ M d (pc + 1) ls ((0, z) :: st) c r c') : Er X ρ M d pc ls st c r c' := Er.pure (fun A _ _ _ hl hs => ⟨⟨hl, hs.cons wv_i⟩, fun _ _ h => Ev.iload_n d9 hi (vl_get (A := A) hx) h⟩) k
theorem Er.aload_n {n : Fin 4} {i : Nat} {x : AV} (d9 : decode M.cc pc = .ok (.aload_n n, 1)) (hi : (n : Nat) = i) (hx : ls[i]? = some (some x)) (ht : 2 ≤ x.1) (k : Er X ρ M d (pc + 1) ls (x :: st) c r c') : Er X ρ M d pc ls st c r c' := Er.pure (fun A _ _ _ hl hs => ⟨⟨hl, hs.cons (hl.get hx)⟩, fun _ _ h => by
  obtain ⟨q, hq⟩ := ia_ref (A := A) ht
  have h' : Ev X M d (pc + 1) (vl A ls) (ia A x :: st.map (ia A)) _ _ _ := h
  rw [hq] at h'
  exact Ev.aload_n d9 hi (by rw [vl_get hx, hq]) h'⟩) k
theorem Er.istore_n {n : Fin 4} {i : Nat} {z : Int} (d9 : decode M.cc pc = .ok (.istore_n n, 1)) (hi : (n : Nat) = i) (hn : i < M.ml) (k : Er X ρ M d (pc + 1) (ls.set i (some (0, z))) st c r c') : Er X ρ M d pc ls ((0, z) :: st) c r c' := Er.pure (fun A _ _ _ hl hs => ⟨⟨hl.set wv_i, hs.tl⟩, fun _ _ h => Ev.istore_n d9 hi hn (by rw [vl_set] at h; exact h)⟩) k
theorem Er.inc {i : Nat} {n a : Int} (d9 : decode M.cc pc = .ok (.iinc i n, 3)) (hx : ls[i]? = some (some (0, a))) (hn : i < M.ml) (k : Er X ρ M d (pc + 3) (ls.set i (some (0, a + n))) st c r c') : Er X ρ M d pc ls st c r c' := Er.pure (fun A _ _ _ hl hs => ⟨⟨hl.set wv_i, hs⟩, fun _ _ h => Ei.inc d9 (vl_get (A := A) hx) hn (by rw [vl_set] at h; exact h)⟩) k
theorem Er.dup {x : AV} (d9 : decode M.cc pc = .ok (.dup, 1)) (k : Er X ρ M d (pc + 1) ls (x :: x :: st) c r c') : Er X ρ M d pc ls (x :: st) c r c' := Er.pure (fun _ _ _ _ hl hs => ⟨⟨hl, hs.cons hs.hd⟩, fun _ _ h => Ev.dup d9 ia_cat h⟩) k
theorem Er.pop {x : AV} (d9 : decode M.cc pc = .ok (.pop, 1)) (k : Er X ρ M d (pc + 1) ls st c r c') : Er X ρ M d pc ls (x :: st) c r c' := Er.pure (fun _ _ _ _ hl hs => ⟨⟨hl, hs.tl⟩, fun _ _ h => Ev.pop d9 ia_cat h⟩) k
theorem Er.goto {off : Int} {tgt : Nat} (d9 : decode M.cc pc = .ok (.goto off, 3)) (ht : (pc : Int) + off = (tgt : Int)) (k : Er X ρ M d tgt ls st c r c') : Er X ρ M d pc ls st c r c' := Er.pure (fun _ _ _ _ hl hs => ⟨⟨hl, hs⟩, fun _ _ h => Ev.goto d9 ht h⟩) k
theorem Er.icmp_ge_t {a b : Int} {off : Int} {tgt : Nat} (d9 : decode M.cc pc = .ok (.if_icmp .ge off, 3)) (ht : (pc : Int) + off = (tgt : Int)) (ha : R32 a) (hb : R32 b) (hc : b ≤ a) (k : Er X ρ M d tgt ls st c r c') : Er X ρ M d pc ls ((0, b) :: (0, a) :: st) c r c' := Er.pure (fun _ _ _ _ hl hs => ⟨⟨hl, hs.tl.tl⟩, fun _ _ h => Ei.icmp_ge_t d9 ht ha hb hc h⟩) k
theorem Er.icmp_ge_f {a b : Int} {off : Int} {tgt : Nat} (d9 : decode M.cc pc = .ok (.if_icmp .ge off, 3)) (ht : (pc : Int) + off = (tgt : Int)) (ha : R32 a) (hb : R32 b) (hc : ¬ (b ≤ a)) (k : Er X ρ M d (pc + 3) ls st c r c') : Er X ρ M d pc ls ((0, b) :: (0, a) :: st) c r c' := Er.pure (fun _ _ _ _ hl hs => ⟨⟨hl, hs.tl.tl⟩, fun _ _ h => Ei.icmp_ge_f d9 ht ha hb hc h⟩) k
theorem Er.gQ {ci k ix t : Nat} {C : String} {T : u_T} {N : Nat} {ref : String} {i : Int} (z : Int) (hz : c.2.1 ci k i = z) (ht : tgf ci k = t) (hr : vwCl[ci]? = some (C, T, N)) (h3 : 3 ≤ ci ∧ ci < 100) (hk : k < N) (hw : Cond.fieldLink M.y.cls ix ref (T k).2.1 (T k).2.2.1 ∈ lw_tbl) (hs : ref = (T k).1 ∨ Cond.sameField ref (T k).1 (T k).2.1 (T k).2.2.1 ∈ lw_tbl) (hrf : isRf ci k = true)
    (d9 : decode M.cc pc = .ok (.getfield ix, 3)) (kk : Er X ρ M d (pc + 3) ls ((t + 100, z) :: st) c r c') : Er X ρ M d pc ls ((ci, i) :: st) c r c' := Er.pure (fun A σ B hC hl hst => by
  have hg := hst.hd.r ⟨by omega, h3.2⟩
  refine ⟨⟨hl, hst.tl.cons (wv_q (by rw [← hz, ← ht]; exact hC.1.rr hg h3.1 hrf))⟩, fun o τ h => ?_⟩
  have h' : Ev X M d (pc + 3) (vl A ls) (ia A (t + 100, z) :: st.map (ia A)) _ o τ := h
  rw [ia_q] at h'
  show Ev X M d pc (vl A ls) (ia A (ci, i) :: st.map (ia A)) _ o τ
  rw [ia_rg hg]
  exact Er.gR (oA A t z) (by rw [← hz, ← ht]; exact hC.1.gq hg h3.1 hrf) hr (by omega) hk hw hs hrf (hC.1.kd hg) d9 h') kk
theorem Er.nns {t : Nat} {z : Int} (hz : z ≠ -1) (ht : 2 ≤ t ∧ t < 100) (k : Er X ρ M d pc ls ((t, z) :: st) c r c') : Er X ρ M d pc ls ((t + 100, z) :: st) c r c' := Er.pure (fun A _ _ _ hl hs => by
  have hr := (hs.hd.q).resolve_left hz
  refine ⟨⟨hl, hs.tl.cons (wv_r hr)⟩, fun o τ h => ?_⟩
  have h' : Ev X M d pc (vl A ls) (ia A (t, z) :: st.map (ia A)) _ o τ := h
  show Ev X M d pc (vl A ls) (ia A (t + 100, z) :: st.map (ia A)) _ o τ
  rw [ia_q, oA_some hz, ← ia_rg hr]
  exact h') k
theorem Er.gL {ci k ix t : Nat} {C : String} {T : u_T} {N : Nat} {ref : String} {i : Int} (z : Int) (hz : Nn c → rg c ci i → c.2.1 ci k i = z ∧ z ≠ -1) (ht : tgf ci k = t) (h100 : 2 ≤ t ∧ t < 100) (hr : vwCl[ci]? = some (C, T, N)) (h3 : 3 ≤ ci ∧ ci < 100) (hk : k < N) (hw : Cond.fieldLink M.y.cls ix ref (T k).2.1 (T k).2.2.1 ∈ lw_tbl) (hs : ref = (T k).1 ∨ Cond.sameField ref (T k).1 (T k).2.1 (T k).2.2.1 ∈ lw_tbl) (hrf : isRf ci k = true)
    (d9 : decode M.cc pc = .ok (.getfield ix, 3)) (kk : Er X ρ M d (pc + 3) ls ((t, z) :: st) c r c') : Er X ρ M d pc ls ((ci, i) :: st) c r c' := by
  intro A σ B hC hl hst
  have hg := hst.hd.r ⟨by omega, h3.2⟩
  obtain ⟨e1, e2⟩ := hz hC.2 hg
  exact Er.gQ z e1 ht hr h3 hk hw hs hrf d9 (Er.nns e2 h100 kk) A σ B hC hl hst
theorem Er.pI {ci k ix : Nat} {C : String} {T : u_T} {N : Nat} {ref : String} {i z : Int} (hr : vwCl[ci]? = some (C, T, N)) (h3 : 3 ≤ ci ∧ ci < 100) (hk : k < N) (hw : Cond.fieldLink M.y.cls ix ref (T k).2.1 (T k).2.2.1 ∈ lw_tbl) (hs : ref = (T k).1 ∨ Cond.sameField ref (T k).1 (T k).2.1 (T k).2.2.1 ∈ lw_tbl) (hfin : (T k).2.2.2 = false ∨ (M.y.name = "<init>" ∧ (T k).1 = M.y.cls)) (hrf : isRf ci k = false) (hn : narrow (ftab ci k) (.int (i32 z)) = .int (i32 z)) (hfit : fits (ftab ci k) (.int (i32 z)) = true)
    (d9 : decode M.cc pc = .ok (.putfield ix, 3)) (kk : Er X ρ M d (pc + 3) ls st (cput c ci k i z) r c') : Er X ρ M d pc ls ((0, z) :: (ci, i) :: st) c r c' := by
  intro A σ B hC hl hst
  have hg := hst.tl.hd.r ⟨by omega, h3.2⟩
  obtain ⟨τ, A', B', h1, h2⟩ := kk A _ B ⟨hC.1.put hg h3.1 hrf, hC.2⟩ hl hst.tl.tl
  refine ⟨τ, A', B', ?_, h2⟩
  show Ev X M d pc (vl A ls) (.int (i32 z) :: ia A (ci, i) :: st.map (ia A)) _ _ τ
  rw [ia_rg hg]
  exact Ev.pI hr (by omega) hk hw hs hfin hrf hn hfit (hC.1.kd hg) d9 h1
theorem Er.pR {ci k ix t : Nat} {C : String} {T : u_T} {N : Nat} {ref : String} {i z : Int} {x : AV} (hx : isR x t z) (ht : tgf ci k = t) (hr : vwCl[ci]? = some (C, T, N)) (h3 : 3 ≤ ci ∧ ci < 100) (hk : k < N) (hw : Cond.fieldLink M.y.cls ix ref (T k).2.1 (T k).2.2.1 ∈ lw_tbl) (hs : ref = (T k).1 ∨ Cond.sameField ref (T k).1 (T k).2.1 (T k).2.2.1 ∈ lw_tbl) (hfin : (T k).2.2.2 = false ∨ (M.y.name = "<init>" ∧ (T k).1 = M.y.cls)) (hrf : isRf ci k = true)
    (d9 : decode M.cc pc = .ok (.putfield ix, 3)) (kk : Er X ρ M d (pc + 3) ls st (cput c ci k i z) r c') : Er X ρ M d pc ls (x :: (ci, i) :: st) c r c' := by
  intro A σ B hC hl hst
  have hg := hst.tl.hd.r ⟨by omega, h3.2⟩
  have hq := hx.at (A := A) hst.hd
  obtain ⟨τ, A', B', h1, h2⟩ := kk A _ B ⟨hC.1.putq hg h3.1 hrf (by rw [ht]; exact hq.2), hC.2⟩ hl hst.tl.tl
  refine ⟨τ, A', B', ?_, h2⟩
  show Ev X M d pc (vl A ls) (ia A x :: ia A (ci, i) :: st.map (ia A)) _ _ τ
  rw [ia_rg hg, hq.1]
  rw [ht] at h1
  exact Ev.pR hr (by omega) hk hw hs hfin hrf (hC.1.kd hg) d9 h1
theorem Er.vret (hr : M.rt = none) (d9 : decode M.cc pc = .ok (.return_, 1)) (ho : r = .inl none) (hc : c' = c) : Er X ρ M d pc ls [] c r c' := by
  subst ho hc
  exact fun A σ B hC _ _ => ⟨σ, A, B, Ev.vret hr d9, hC, EX.rfl', fun y hy => by cases hy⟩
theorem Er.ci {ci ix n d' : Nat} {b : Int} {M' : Mt} {as : List AV} {st0 : List AV} {c1 : Cs} (hm : cokD M' n) (hrt : M'.rt = none) (hnm : M'.y.name = "<init>") (h3 : 2 ≤ ci ∧ ci < 100) (hw : Cond.methodLink M.y.cls ix M'.y ∈ lw_tbl) (hi : Cond.instanceMethod M'.y ∈ lw_tbl)
    (d9 : decode M.cc pc = .ok (.invokespecial ix, 3)) (hst : st0 = as.reverse ++ (ci, b) :: st) (hn : as.length = n) (hsm : st.length ≤ 8) (hd : d' + 1 ≤ d) (hK : Kr X ρ M' d' ((ci, b) :: as) c (.inl none) c1) (k : Er X ρ M d (pc + 3) ls st c1 r c') : Er X ρ M d pc ls st0 c r c' := by
  subst hst
  intro A σ B hC hl hs0
  obtain ⟨w1, w2⟩ := WS.call hs0
  obtain ⟨τ1, A1, B1, g1, g2, g3, g4⟩ := hK A σ B hC w1
  obtain ⟨τ, A', B', k1, k2, k3, k4⟩ := k A1 τ1 B1 g2 (g3.ls hl).2 (g3.st w2).2
  refine ⟨τ, A', B', ?_, k2, g3.trans k3, k4⟩
  have hg := w1.hd.r h3
  rw [(g3.ls hl).1, (g3.st w2).1] at k1
  rw [map_call, ia_rg hg]
  have g1' : Ct X M' d' (ia A (ci, b) :: as.map (ia A)) σ (.inl none) τ1 := g1
  rw [ia_rg hg] at g1'
  exact Ev.callI hm hrt hnm hw hi d9 rfl (by rw [List.length_map]; exact hn) (by rw [ws_cat]; exact hsm) hd g1' k1
theorem Er.cf {ix cnt n d' : Nat} {b : Int} {x : MethodName} {M' : Mt} {as : List AV} {st0 : List AV} {v : Option AV} {c1 : Cs} (hm : cokF x M' n) (hw : Cond.methodLink M.y.cls ix x ∈ lw_tbl)
    (d9 : decode M.cc pc = .ok (.invokeinterface ix cnt, 5)) (hst : st0 = as.reverse ++ (2, b) :: st) (hn : as.length = n) (hsm : st.length ≤ 8) (hd : d' + 1 ≤ d) (hK : Kr X ρ M' d' ((2, b) :: as) c (.inl v) c1) (k : Er X ρ M d (pc + 5) ls (v.toList ++ st) c1 r c') : Er X ρ M d pc ls st0 c r c' := by
  subst hst
  intro A σ B hC hl hs0
  obtain ⟨w1, w2⟩ := WS.call hs0
  obtain ⟨τ1, A1, B1, g1, g2, g3, g4⟩ := hK A σ B hC w1
  obtain ⟨τ, A', B', k1, k2, k3, k4⟩ := k A1 τ1 B1 g2 (g3.ls hl).2 (WS.ret g4 (g3.st w2).2)
  refine ⟨τ, A', B', ?_, k2, g3.trans k3, k4⟩
  have hg := w1.hd.r ⟨by omega, by omega⟩
  rw [(g3.ls hl).1, ret_map, (g3.st w2).1] at k1
  rw [ir_v] at g1
  rw [map_call, ia_rg hg]
  have g1' : Ct X M' d' (ia A (2, b) :: as.map (ia A)) σ (.inl (v.map (ia A1))) τ1 := g1
  rw [ia_rg hg] at g1'
  exact Ev.callF hm (hC.1.kd hg) hw d9 rfl (by rw [List.length_map]; exact hn) (by rw [ws_cat]; exact hsm) hd g1' k1
theorem Er.new {ci ix : Nat} {C : String} {T : u_T} {N : Nat} (hr : vwCl[ci]? = some (C, T, N)) (h3 : 3 ≤ ci ∧ ci ≤ 13) (hN : N ≤ 60) (hw : Cond.classLink M.y.cls ix C ∈ lw_tbl) (hw2 : Cond.instantiable C N ∈ lw_tbl) (hw3 : Cond.initialized C ∈ lw_tbl) (d9 : decode M.cc pc = .ok (.new ix, 3)) (k : Er X ρ M d (pc + 3) ls ((ci, c.1 ci) :: st) (cnew c ci) r c') : Er X ρ M d pc ls st c r c' := by
  intro A σ B hC hl hs
  have hE : EX c A (cnew c ci) (upA A ci (c.1 ci) σ.sz) := fun cj j hj => ⟨upA_old hj, rg_old hj⟩
  have hg : rg (cnew c ci) ci (c.1 ci) := ⟨⟨by omega, h3.2⟩, hC.2 ci, by
    show c.1 ci < (if ci = ci then c.1 ci + 1 else c.1 ci)
    rw [if_pos rfl]
    omega⟩
  obtain ⟨τ, A', B', k1, k2, k3, k4⟩ := k (upA A ci (c.1 ci) σ.sz) (σ.al (ci + 1) 0 N) B ⟨hC.1.new h3 hN (hC.2 ci), hC.2.new ci⟩ (hE.ls hl).2 (WS.cons (wv_r hg) (hE.st hs).2)
  refine ⟨τ, A', B', ?_, k2, hE.trans k3, k4⟩
  have k1' : Ev X M d (pc + 3) (vl (upA A ci (c.1 ci) σ.sz) ls) (ia (upA A ci (c.1 ci) σ.sz) (ci, c.1 ci) :: st.map (ia (upA A ci (c.1 ci) σ.sz))) (σ.al (ci + 1) 0 N) (ir A' r) τ := k1
  rw [(hE.ls hl).1, (hE.st hs).1, ia_rg hg, upA_new] at k1'
  exact Ev.new hr (by omega) hw hw2 hw3 d9 k1'
theorem Er.oinit {ix : Nat} {x : AV} (hx : 2 ≤ x.1 ∧ x.1 < 100) (hw : Cond.methodLink M.y.cls ix Lib.objectInit ∈ lw_tbl) (hd : 1 ≤ d) (hsz : st.length ≤ 60) (d9 : decode M.cc pc = .ok (.invokespecial ix, 3)) (k : Er X ρ M d (pc + 3) ls st c r c') : Er X ρ M d pc ls (x :: st) c r c' := Er.pure (fun A _ _ _ hl hs => ⟨⟨hl, hs.tl⟩, fun o τ h => by
  obtain ⟨t, z⟩ := x
  have hg := hs.hd.r hx
  show Ev X M d pc (vl A ls) (ia A (t, z) :: st.map (ia A)) _ o τ
  rw [ia_rg hg]
  exact Ev.objInit hw hd (by rw [ws_cat]; exact hsz) d9 h⟩) k
theorem Er.newl {ix iy : Nat} (hw : Cond.classLink M.y.cls ix "java/util/ArrayList" ∈ lw_tbl) (hw2 : Cond.instantiable "java/util/ArrayList" 3 ∈ lw_tbl) (hw3 : Cond.initialized "java/util/ArrayList" ∈ lw_tbl) (hwi : Cond.methodLink M.y.cls iy m_Jx4a65c_init_da8c8.y ∈ lw_tbl)
    (d0 : decode M.cc pc = .ok (.new ix, 3)) (d3 : decode M.cc (pc + 3) = .ok (.dup, 1)) (d4 : decode M.cc (pc + 4) = .ok (.invokespecial iy, 3)) (hd : 4 ≤ d) (hsm : st.length ≤ 7) (k : Er X ρ M d (pc + 7) ls ((2, c.1 2) :: st) (cnewl c) r c') : Er X ρ M d pc ls st c r c' := by
  intro A σ B hC hl hs
  have hE : EX c A (cnewl c) (upA A 2 (c.1 2) σ.sz) := fun cj j hj => ⟨upA_old hj, rg_oldl hj⟩
  have hg : rg (cnewl c) 2 (c.1 2) := ⟨⟨by decide, by decide⟩, hC.2 2, by
    show c.1 2 < (if 2 = 2 then c.1 2 + 1 else c.1 2)
    rw [if_pos rfl]
    omega⟩
  obtain ⟨τ, A', B', k1, k2, k3, k4⟩ := k (upA A 2 (c.1 2) σ.sz) _ _ ⟨hC.1.newl, hC.2.newl⟩ (hE.ls hl).2 (WS.cons (wv_r hg) (hE.st hs).2)
  refine ⟨τ, A', B', ?_, k2, hE.trans k3, k4⟩
  have k1' : Ev X M d (pc + 7) (vl (upA A 2 (c.1 2) σ.sz) ls) (ia (upA A 2 (c.1 2) σ.sz) (2, c.1 2) :: st.map (ia (upA A 2 (c.1 2) σ.sz))) (((σ.al 3 0 3).setI σ.sz 0 (i32 0)).setR σ.sz 1 (some X.t0)) (ir A' r) τ := k1
  rw [(hE.ls hl).1, (hE.st hs).1, ia_rg hg, upA_new] at k1'
  refine Ev.new (ci := 2) (C := RJx4a65c) (T := TJx4a65c) (N := 3) rfl (by decide) hw hw2 hw3 d0 ?_
  refine Ev.dup d3 rfl ?_
  refine Ev.callI (As := []) (rest := va_rf (some σ.sz) :: st.map (ia A)) (d' := 3) k_Jx4a65c_init_da8c8 rfl rfl hwi ki_Jx4a65c_init_da8c8 d4 rfl rfl ?_ hd (s_linit (up1_eq _ _ _)) k1'
  show 1 + ((st.map (ia A)).map fun v => v.category).sum ≤ 8
  rw [ws_cat]
  omega
end ER
section KRL
variable {X : Cx} {ρ : Hp} {c : Cs} {l : Int}
theorem kr_add {x : Int} {t : Nat} (ht : tel l = t) (hn : ((c.2.2.1 l).length : Int) ≤ 199) (h100 : 2 ≤ t ∧ t < 100) : Kr X ρ m_Jx4a65c_add_9ea2d 6 [(2, l), (t, x)] c (.inl (some (0, 1))) (clst c l (c.2.2.1 l ++ [x])) := fun A σ B hC hs => by
  obtain ⟨h1, h2⟩ := rg2 (A := A) hs
  have hr := hs.tl.hd.r h100
  obtain ⟨τ, B', g1, g2⟩ := q_add hC.1 h1.1 h1.2 ht hn hr
  refine ⟨τ, A, B', ?_, ⟨g2, hC.2⟩, fun _ _ h => ⟨rfl, h⟩, fun y hy => by cases hy; exact wv_i⟩
  show Ct X _ 6 [ia A (2, l), ia A (t, x)] σ _ τ
  rw [h2, ia_rg hr]
  exact g1
end KRL
