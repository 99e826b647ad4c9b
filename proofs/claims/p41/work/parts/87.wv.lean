/-! the law's world: the brewery by its numbers, bounds of parts and exceptions made, room for cells of the law's own, the law's arrays (written by wip/p41/mkWv.py) -/
theorem CS.fg {X : Cx} {ρ σ τ : Hp} {A : Nat → Int → Nat} {c : Cs} {B : Int → Nat} (h : CS X ρ σ A c B) (hk : τ.kd = σ.kd) (hl : τ.ln = σ.ln) (hr : τ.rv = σ.rv) (hi : ∀ a, ¬ fgn (σ.kd a) → τ.iv a = σ.iv a) (hsz : τ.sz = σ.sz) (hcl : τ.cl = σ.cl) (hsl : τ.sl = σ.sl) : CS X τ τ A c B := by
  obtain ⟨⟨w, kd, inj, iv, rv, ll, ap, fg, rm⟩, hf⟩ := h
  have w' : WF X τ := by
    unfold WF
    rw [hsz, hk]
    exact w
  have nf : ∀ ci i, rg c ci i → ¬ fgn (σ.kd (A ci i)) := fun ci i hr9 q => by
    have := kd ci i hr9
    have h2 := hr9.1
    unfold fgn at q
    omega
  have cp : ∀ b, cap X τ b = cap X σ b := fun b => by
    unfold cap
    rw [hl]
  refine ⟨⟨w', fun ci i q => by rw [hk]; exact kd ci i q, inj, fun ci k i q h3 h4 => ?_, fun ci k i q h3 h4 => ?_, fun l h0 h1 => ⟨?_, (ll l h0 h1).2⟩, ap, ⟨Nat.le_refl _, fun a ha => ⟨?_, rfl, rfl, rfl, rfl, rfl, rfl⟩⟩, rm.1, ?_, ?_⟩, hf⟩
  · rw [hi _ (nf ci i q)]
    exact iv ci k i q h3 h4
  · rw [hr]
    exact rv ci k i q h3 h4
  · refine (ll l h0 h1).1.congr (by rw [hk]) ?_ (by rw [hr]) (fun _ => ⟨by rw [hl], by rw [hr]⟩) (fun _ _ => by rw [hk])
    rw [hi _ (nf 2 l ⟨⟨by decide, by decide⟩, h0, h1⟩)]
  · refine (w'.2.2 a ?_).2
    exact (fgn_no ha).2.2
  · rw [hcl, sF_congr (f := fun l => cap X σ (B l)) _ (fun i _ _ => cp _)]
    exact rm.2.1
  · rw [hsl, sF_congr (f := fun l => cap X σ (B l) * cap X σ (B l)) _ (fun i _ _ => by show cap X τ (B i) * cap X τ (B i) = _; rw [cp])]
    exact rm.2.2
abbrev Ar : Type := Nat × Nat × Nat × (Int → Int)
abbrev Wl : Type := Vw × (Int × Int) × (Nat × Nat) × List Ar
def BW (X : Cx) (h : Nat) (v : Vw) (y x : Int) (n m : Nat) (σ : Hp) : Prop := ∃ A c B, CS X (σ.up n m) (σ.up n m) A c B ∧ INV c v ∧ A 13 0 = h ∧ c.1 6 ≤ y ∧ c.2.2.2 ≤ x
def AR (r : Ar) (σ : Hp) : Prop := σ.kd r.1 = r.2.1 ∧ (r.2.1 = 20 ∨ r.2.1 = 23) ∧ σ.ln r.1 = r.2.2.1 ∧ ∀ j : Nat, j < r.2.2.1 → σ.iv r.1 j = i32 (r.2.2.2 (j : Int))
def RW (X : Cx) (h : Nat) (w : Wl) (σ : Hp) : Prop := BW X h w.1 w.2.1.1 w.2.1.2 w.2.2.1.1 w.2.2.1.2 σ ∧ (∀ r ∈ w.2.2.2, AR r σ) ∧ w.2.2.2.Pairwise (fun a b => a.1 ≠ b.1)
def Wv (X : Cx) (h : Nat) (M : Mt) (d pc : Nat) (ls : List (Option Value)) (st : List Value) (w : Wl) (o : Rs) (w' : Wl) : Prop := ∀ σ, RW X h w σ → ∃ τ, Lv X M d pc ls st σ o τ ∧ RW X h w' τ
def Kl (X : Cx) (h : Nat) (M : Mt) (d : Nat) (av : List Value) (w : Wl) (o : Rs) (w' : Wl) : Prop := ∀ σ, RW X h w σ → ∃ τ, Ct X M d av σ o τ ∧ RW X h w' τ
theorem AR.fg {r : Ar} {σ : Hp} (h : AR r σ) : fgn (σ.kd r.1) := by
  unfold fgn
  have := h.1
  have := h.2.1
  omega
theorem RW.kd {X : Cx} {h : Nat} {w : Wl} {σ : Hp} (hR : RW X h w σ) : σ.kd h = 13 + 1 := by
  obtain ⟨⟨A, c, B, hC, hV, e, -⟩, -⟩ := hR
  rw [← e]
  exact hC.1.kd (ci := 13) ⟨⟨by decide, by decide⟩, Int.le_refl 0, by rw [hC.2.1.2.1]; decide⟩
theorem RW.inv {X : Cx} {h : Nat} {w : Wl} {σ : Hp} (hR : RW X h w σ) : ∃ c, INV c w.1 := by
  obtain ⟨⟨A, c, B, hC, hV, e, -⟩, -⟩ := hR
  exact ⟨c, hV⟩
theorem RW.more {X : Cx} {h : Nat} {v : Vw} {y x y' x' : Int} {nm : Nat × Nat} {R : List Ar} {σ : Hp} (hR : RW X h (v, (y, x), nm, R) σ) (hy : y ≤ y') (hx : x ≤ x') : RW X h (v, (y', x'), nm, R) σ := by
  obtain ⟨⟨A, c, B, hC, hV, e, h6, h2⟩, hA⟩ := hR
  exact ⟨⟨A, c, B, hC, hV, e, Int.le_trans h6 hy, Int.le_trans h2 hx⟩, hA⟩
theorem RW.drop {X : Cx} {h : Nat} {v : Vw} {yx : Int × Int} {nm : Nat × Nat} {r : Ar} {R : List Ar} {σ : Hp} (hR : RW X h (v, yx, nm, r :: R) σ) : RW X h (v, yx, nm, R) σ :=
  ⟨hR.1, fun q hq => hR.2.1 q (List.mem_cons_of_mem _ hq), (List.pairwise_cons.mp hR.2.2).2⟩
/-- a call of the class -/
theorem kc_up {X : Cx} {σ : Hp} {n m : Nat} {A : Nat → Int → Nat} {c c' : Cs} {B : Int → Nat} {M : Mt} {d : Nat} {as : List AV} {r : Rr} (hC : CS X (σ.up n m) (σ.up n m) A c B) (hK : Kc X (σ.up n m) M d as c r c') (hw : WS c as) :
    ∃ τ A' B', Ct X M d (as.map (ia A)) σ (ir A' r) τ ∧ CS X (τ.up n m) (τ.up n m) A' c' B' ∧ A' 13 0 = A 13 0 ∧ ∀ a, fgn (σ.kd a) → τ.kd a = σ.kd a ∧ τ.ln a = σ.ln a ∧ τ.iv a = σ.iv a := by
  obtain ⟨τu, A2, B2, g1, g2, g3, g4⟩ := hK A (σ.up n m) B hC hw
  have l1 : σ.cl + n ≤ τu.cl := g1.1
  have l2 : σ.sl + m ≤ τu.sl := g1.2.1
  obtain ⟨τ, et⟩ : ∃ τ : Hp, τ.up n m = τu := ⟨(τu.kd, τu.ln, τu.iv, τu.rv, τu.lv, τu.dv, τu.sz, τu.cl - n, τu.sl - m), by
    show (_, _, _, _, _, _, _, τu.cl - n + n, τu.sl - m + m) = τu
    rw [Nat.sub_add_cancel (by omega), Nat.sub_add_cancel (by omega)]
    rfl⟩
  subst et
  have fg := g2.1.2.2.2.2.2.2.2.1.2
  have h13 : rg c 13 0 := ⟨⟨by decide, by decide⟩, Int.le_refl 0, by rw [hC.2.1.2.1]; decide⟩
  exact ⟨τ, A2, B2, Ct.shift n m g1, CS.fg g2 rfl rfl rfl (fun _ _ => rfl) rfl rfl rfl, (g3 13 0 h13).1, fun a ha => ⟨(fg a ha).2.1, (fg a ha).2.2.1, (fg a ha).2.2.2.1⟩⟩
theorem RW.call {X : Cx} {h : Nat} {v v' : Vw} {y x y' x' : Int} {n m : Nat} {R : List Ar} {σ τ : Hp} {A' : Nat → Int → Nat} {c' : Cs} {B' : Int → Nat} (hR : RW X h (v, (y, x), (n, m), R) σ) (hC : CS X (τ.up n m) (τ.up n m) A' c' B') (hV : INV c' v') (hA : A' 13 0 = h) (h6 : c'.1 6 ≤ y') (hx : c'.2.2.2 ≤ x') (F : ∀ a, fgn (σ.kd a) → τ.kd a = σ.kd a ∧ τ.ln a = σ.ln a ∧ τ.iv a = σ.iv a) : RW X h (v', (y', x'), (n, m), R) τ := by
  refine ⟨⟨A', c', B', hC, hV, hA, h6, hx⟩, fun r hr => ?_, hR.2.2⟩
  have g := hR.2.1 r hr
  obtain ⟨f1, f2, f3⟩ := F r.1 g.fg
  exact ⟨f1.trans g.1, g.2.1, f2.trans g.2.2.1, fun j hj => by rw [f3]; exact g.2.2.2 j hj⟩
theorem RW.st {X : Cx} {h : Nat} {v : Vw} {yx : Int × Int} {nm : Nat × Nat} {R R' : List Ar} {p a K len : Nat} {f : Int → Int} {σ : Hp} {i x : Int} (hR : RW X h (v, yx, nm, R) σ) (hp : R[p]? = some (a, K, len, f)) (h0 : 0 ≤ i) (hi : i < (len : Int)) (e : R' = R.set p (a, K, len, fun j => if j = i then x else f j)) : RW X h (v, yx, nm, R') (σ.setI a i.toNat (i32 x)) := by
  subst e
  obtain ⟨⟨A, c, B, hC, hV, eA, h6⟩, hA, hP⟩ := hR
  have ga := hA _ (List.mem_of_getElem? hp)
  have fa : fgn (σ.kd a) := ga.fg
  refine ⟨⟨A, c, B, hC.fg (τ := (σ.setI a i.toNat (i32 x)).up nm.1 nm.2) rfl rfl rfl (fun b hb => ?_) rfl rfl rfl, hV, eA, h6⟩, fun r hr => ?_, ?_⟩
  · funext j
    exact if_neg (fun q => hb (by rw [q.1]; exact fa))
  · rcases List.getElem?_of_mem hr with ⟨q, hq⟩
    rw [List.getElem?_set] at hq
    by_cases c1 : p = q
    · rw [if_pos c1] at hq
      split at hq
      · cases hq
        refine ⟨ga.1, ga.2.1, ga.2.2.1, fun j hj => ?_⟩
        show (if a = a ∧ j = i.toNat then i32 x else σ.iv a j) = i32 (if (j : Int) = i then x else f j)
        by_cases c2 : (j : Int) = i
        · rw [if_pos ⟨rfl, by omega⟩, if_pos c2]
        · rw [if_neg (fun z => c2 (by omega)), if_neg c2]
          exact ga.2.2.2 j hj
      · cases hq
    · rw [if_neg c1] at hq
      have gr := hA r (List.mem_of_getElem? hq)
      refine ⟨gr.1, gr.2.1, gr.2.2.1, fun j hj => ?_⟩
      show (if r.1 = a ∧ j = i.toNat then i32 x else σ.iv r.1 j) = _
      have ne : r.1 ≠ a := fun z => by
        have lp := (List.getElem?_eq_some_iff.mp hp).1
        have lq := (List.getElem?_eq_some_iff.mp hq).1
        have ep := (List.getElem?_eq_some_iff.mp hp).2
        have eq := (List.getElem?_eq_some_iff.mp hq).2
        rcases Nat.lt_or_ge p q with c3 | c3
        · have := List.pairwise_iff_getElem.mp hP p q lp lq c3
          rw [ep, eq] at this
          exact this z.symm
        · have := List.pairwise_iff_getElem.mp hP q p lq lp (by omega)
          rw [ep, eq] at this
          exact this z
      rw [if_neg (fun z => ne z.1)]
      exact gr.2.2.2 j hj
  · rw [List.pairwise_iff_getElem] at hP ⊢
    intro s t hs ht hst
    have k : ∀ (u : Nat) (hu : u < (R.set p (a, K, len, fun j => if j = i then x else f j)).length), ((R.set p (a, K, len, fun j => if j = i then x else f j))[u]).1 = (R[u]'(by rw [List.length_set] at hu; exact hu)).1 := fun u hu => by
      rw [List.getElem_set]
      split
      · rename_i c1
        subst c1
        have ep := (List.getElem?_eq_some_iff.mp hp).2
        rw [ep]
      · rfl
    rw [k s hs, k t ht]
    exact hP s t _ _ hst
theorem RW.al {X : Cx} {h : Nat} {v : Vw} {yx : Int × Int} {n m K len : Nat} {R : List Ar} {σ : Hp} (hR : RW X h (v, yx, (n + 1, m + len), R) σ) (hK : K = 20 ∨ K = 23) : RW X h (v, yx, (n, m), (σ.sz, K, len, fun _ => 0) :: R) (σ.al K len len) := by
  obtain ⟨⟨A, c, B, hC, hV, eA, h6⟩, hA, hP⟩ := hR
  have hw : WF X (σ.up (n + 1) (m + len)) := hC.1.1
  have kd0 : ∀ a, σ.kd a ≠ 0 → a ≠ σ.sz := fun a ha e => by
    have := (hw.2.2 a ha).2
    have e2 : (σ.up (n + 1) (m + len)).sz = σ.sz := rfl
    omega
  have w' : WF X ((σ.al K len len).up n m) := by
    refine ⟨hw.1, Nat.le_succ_of_le hw.2.1, fun a ha => ?_⟩
    show X.b0 ≤ a ∧ a < σ.sz + 1
    have b0 : X.b0 ≤ σ.sz := hw.2.1
    by_cases e : a = σ.sz
    · omega
    · have e1 : (σ.al K len len).kd a = σ.kd a := if_neg e
      have ha' : (σ.al K len len).kd a ≠ 0 := ha
      rw [e1] at ha'
      have g : X.b0 ≤ a ∧ a < σ.sz := hw.2.2 a ha'
      omega
  refine ⟨⟨A, c, B, hC.grow w' (fun a ha => ⟨if_neg (kd0 a ha), if_neg (kd0 a ha), if_neg (kd0 a ha), if_neg (kd0 a ha)⟩) (by show σ.cl + 1 + n ≤ σ.cl + (n + 1); omega) (by show σ.sl + len + m ≤ σ.sl + (m + len); omega), hV, eA, h6⟩, fun r hr => ?_, ?_⟩
  · rcases List.mem_cons.mp hr with rfl | hr
    · exact ⟨if_pos rfl, hK, if_pos rfl, fun j _ => congrFun (up1_eq σ.iv σ.sz (fun _ => (0 : Int32))) j⟩
    · have g := hA r hr
      have ne := kd0 r.1 (by have := g.1; have := g.2.1; omega)
      have e1 : (σ.al K len len).iv r.1 = σ.iv r.1 := if_neg ne
      exact ⟨(if_neg ne).trans g.1, g.2.1, (if_neg ne).trans g.2.2.1, fun j hj => by rw [e1]; exact g.2.2.2 j hj⟩
  · refine List.pairwise_cons.mpr ⟨fun r hr e => ?_, hP⟩
    have g := hA r hr
    exact kd0 r.1 (by have := g.1; have := g.2.1; omega) e.symm
section WV
variable {X : Cx} {h : Nat} {M : Mt} {d pc : Nat} {ls : List (Option Value)} {rest st : List Value} {w w' w1 : Wl} {o : Rs}
theorem Wv.lift {pc' : Nat} {ls' : List (Option Value)} {st' : List Value} (q : ∀ σ o τ, Lv X M d pc' ls' st' σ o τ → Lv X M d pc ls st σ o τ) (k : Wv X h M d pc' ls' st' w o w') : Wv X h M d pc ls st w o w' := fun σ hR => by
  obtain ⟨τ, k1, k2⟩ := k σ hR
  exact ⟨τ, q _ _ _ k1, k2⟩
theorem Wv.more {v : Vw} {y x y' x' : Int} {nm : Nat × Nat} {R : List Ar} (hy : y ≤ y') (hx : x ≤ x') (k : Wv X h M d pc ls st (v, (y', x'), nm, R) o w') : Wv X h M d pc ls st (v, (y, x), nm, R) o w' := fun σ hR => k σ (hR.more hy hx)
theorem Wv.after {v : Vw} {y x y' x' : Int} {nm : Nat × Nat} {R : List Ar} (hy : y ≤ y') (hx : x ≤ x') (k : Wv X h M d pc ls st w o (v, (y, x), nm, R)) : Wv X h M d pc ls st w o (v, (y', x'), nm, R) := fun σ hR => by
  obtain ⟨τ, k1, k2⟩ := k σ hR
  exact ⟨τ, k1, k2.more hy hx⟩
theorem Wv.drop {v : Vw} {yx : Int × Int} {nm : Nat × Nat} {r : Ar} {R : List Ar} (k : Wv X h M d pc ls st w o (v, yx, nm, r :: R)) : Wv X h M d pc ls st w o (v, yx, nm, R) := fun σ hR => by
  obtain ⟨τ, k1, k2⟩ := k σ hR
  exact ⟨τ, k1, k2.drop⟩
theorem Wv.inv (k : ∀ c, INV c w.1 → Wv X h M d pc ls st w o w') : Wv X h M d pc ls st w o w' := fun σ hR => by
  obtain ⟨c, hc⟩ := hR.inv
  exact k c hc σ hR
theorem Wv.fgt {ls' : List (Option Value)} (q : lsub ls' ls) (k : Wv X h M d pc ls' st w o w') : Wv X h M d pc ls st w o w' := Wv.lift (fun _ _ _ kq => Lv.fgt q kq) k
theorem Wv.iret {v : Int32} {ty : FieldType} (hr : M.rt = some ty) (hn : narrow ty (.int v) = .int v) (d9 : decode M.cc pc = .ok (.ireturn, 1)) : Wv X h M d pc ls [.int v] w (.inl (some (.int v))) w := fun σ hR => ⟨σ, Lv.iret hr hn d9, hR⟩
theorem Wv.lret {v : Int64} (hr : M.rt = some .long) (d9 : decode M.cc pc = .ok (.lreturn, 1)) : Wv X h M d pc ls [.long v] w (.inl (some (.long v))) w := fun σ hR => ⟨σ, Lv.lret hr d9, hR⟩
theorem Wv.callS {ix n d' : Nat} {M' : Mt} {As : List Value} {v : Option Value} (hm : cokD M' n) (hw : Cond.methodLink M.y.cls ix M'.y ∈ lw_tbl) (hi : Cond.static M'.y ∈ lw_tbl)
    (d9 : decode M.cc pc = .ok (.invokestatic ix, 3)) (hst : st = As.reverse ++ rest) (hn : As.length = n) (hsm : (rest.map fun v => v.category).sum ≤ 8) (hd : d' + 1 ≤ d) (hC : Kl X h M' d' As w (.inl v) w1) (k : Wv X h M d (pc + 3) ls (v.toList ++ rest) w1 o w') : Wv X h M d pc ls st w o w' := fun σ hR => by
  obtain ⟨σ1, c1, c2⟩ := hC σ hR
  obtain ⟨τ, k1, k2⟩ := k σ1 c2
  exact ⟨τ, Lv.callS hm hw hi d9 hst hn hsm hd c1 k1, k2⟩
theorem Wv.callH {ix n d' : Nat} {M' : Mt} {As : List Value} {v : Option Value} (hm : cokH M' n) (hw : Cond.methodLink M.y.cls ix M'.y ∈ lw_tbl) (hi : Cond.static M'.y ∈ lw_tbl)
    (d9 : decode M.cc pc = .ok (.invokestatic ix, 3)) (hst : st = As.reverse ++ rest) (hn : As.length = n) (hsm : (rest.map fun v => v.category).sum ≤ 8) (hd : d' + 1 ≤ d) (hC : Kl X h M' d' As w (.inl v) w1) (k : Wv X h M d (pc + 3) ls (v.toList ++ rest) w1 o w') : Wv X h M d pc ls st w o w' := fun σ hR => by
  obtain ⟨σ1, c1, c2⟩ := hC σ hR
  obtain ⟨τ, k1, k2⟩ := k σ1 c2
  exact ⟨τ, Lv.callSH hm hw hi d9 hst hn hsm hd c1 k1, k2⟩
theorem Wv.callV {ix n d' : Nat} {M' : Mt} {As : List Value} {v : Option Value} (hm : cokD M' n) (hw : Cond.methodLink M.y.cls ix M'.y ∈ lw_tbl) (hi : Cond.instanceMethod M'.y ∈ lw_tbl) (hs : Cond.selects RX10 M'.y M'.y ∈ lw_tbl)
    (d9 : decode M.cc pc = .ok (.invokevirtual ix, 3)) (hst : st = As.reverse ++ va_rf (some h) :: rest) (hn : As.length = n) (hsm : (rest.map fun v => v.category).sum ≤ 8) (hd : d' + 1 ≤ d) (hC : Kl X h M' d' (va_rf (some h) :: As) w (.inl v) w1) (k : Wv X h M d (pc + 3) ls (v.toList ++ rest) w1 o w') : Wv X h M d pc ls st w o w' := fun σ hR => by
  obtain ⟨σ1, c1, c2⟩ := hC σ hR
  obtain ⟨τ, k1, k2⟩ := k σ1 c2
  exact ⟨τ, Lv.callV (ci := 13) (C := RX10) (T := TX10) (N := 12) hm rfl hR.kd hw hi hs d9 hst hn hsm hd c1 k1, k2⟩
theorem Wv.iald {v : Vw} {yx : Int × Int} {nm : Nat × Nat} {R : List Ar} {a len : Nat} {f : Int → Int} {i : Int} (p : Nat) (hp : R[p]? = some (a, 20, len, f)) (h0 : 0 ≤ i) (hi : i < (len : Int)) (hl : len ≤ 400) (d9 : decode M.cc pc = .ok (.iaload, 1)) (k : Wv X h M d (pc + 1) ls (.int (i32 (f i)) :: rest) (v, yx, nm, R) o w') : Wv X h M d pc ls (.int (i32 i) :: va_rf (some a) :: rest) (v, yx, nm, R) o w' := fun σ hR => by
  obtain ⟨τ, k1, k2⟩ := k σ hR
  have g := hR.2.1 _ (List.mem_of_getElem? hp)
  have e := g.2.2.2 i.toNat (by show i.toNat < len; omega)
  rw [Int.toNat_of_nonneg h0] at e
  have gl : σ.ln a = len := g.2.2.1
  exact ⟨τ, Lv.iald g.1 (by rw [gl]; exact i32_vin h0 hi (by omega)) d9 (by rw [i32_cl h0 ⟨by omega, by omega⟩, e]; exact k1), k2⟩
theorem Wv.zald {v : Vw} {yx : Int × Int} {nm : Nat × Nat} {R : List Ar} {a len : Nat} {f : Int → Int} {i : Int} (p : Nat) (hp : R[p]? = some (a, 23, len, f)) (h0 : 0 ≤ i) (hi : i < (len : Int)) (hl : len ≤ 400) (d9 : decode M.cc pc = .ok (.baload, 1)) (k : Wv X h M d (pc + 1) ls (.int (i32 (f i)) :: rest) (v, yx, nm, R) o w') : Wv X h M d pc ls (.int (i32 i) :: va_rf (some a) :: rest) (v, yx, nm, R) o w' := fun σ hR => by
  obtain ⟨τ, k1, k2⟩ := k σ hR
  have g := hR.2.1 _ (List.mem_of_getElem? hp)
  have e := g.2.2.2 i.toNat (by show i.toNat < len; omega)
  rw [Int.toNat_of_nonneg h0] at e
  have gl : σ.ln a = len := g.2.2.1
  exact ⟨τ, Lv.zald g.1 (by rw [gl]; exact i32_vin h0 hi (by omega)) d9 (by rw [i32_cl h0 ⟨by omega, by omega⟩, e]; exact k1), k2⟩
theorem Wv.iast {v : Vw} {yx : Int × Int} {nm : Nat × Nat} {R : List Ar} {a len : Nat} {f : Int → Int} {i x : Int} (p : Nat) (hp : R[p]? = some (a, 20, len, f)) (h0 : 0 ≤ i) (hi : i < (len : Int)) (hl : len ≤ 400) (d9 : decode M.cc pc = .ok (.iastore, 1)) (k : Wv X h M d (pc + 1) ls rest (v, yx, nm, R.set p (a, 20, len, fun j => if j = i then x else f j)) o w') : Wv X h M d pc ls (.int (i32 x) :: .int (i32 i) :: va_rf (some a) :: rest) (v, yx, nm, R) o w' := fun σ hR => by
  obtain ⟨τ, k1, k2⟩ := k _ (hR.st (x := x) hp h0 hi rfl)
  have g := hR.2.1 _ (List.mem_of_getElem? hp)
  have gl : σ.ln a = len := g.2.2.1
  exact ⟨τ, Lv.iast g.1 (by rw [gl]; exact i32_vin h0 hi (by omega)) d9 (by rw [i32_cl h0 ⟨by omega, by omega⟩]; exact k1), k2⟩
theorem Wv.zast {v : Vw} {yx : Int × Int} {nm : Nat × Nat} {R : List Ar} {a len : Nat} {f : Int → Int} {i x : Int} (p : Nat) (hp : R[p]? = some (a, 23, len, f)) (h0 : 0 ≤ i) (hi : i < (len : Int)) (hl : len ≤ 400) (hx : x = 0 ∨ x = 1) (d9 : decode M.cc pc = .ok (.bastore, 1)) (k : Wv X h M d (pc + 1) ls rest (v, yx, nm, R.set p (a, 23, len, fun j => if j = i then x else f j)) o w') : Wv X h M d pc ls (.int (i32 x) :: .int (i32 i) :: va_rf (some a) :: rest) (v, yx, nm, R) o w' := fun σ hR => by
  obtain ⟨τ, k1, k2⟩ := k _ (hR.st (x := x) hp h0 hi rfl)
  have g := hR.2.1 _ (List.mem_of_getElem? hp)
  have gl : σ.ln a = len := g.2.2.1
  exact ⟨τ, Lv.zast g.1 (by rw [gl]; exact i32_vin h0 hi (by omega)) (nar_b hx) d9 (by rw [i32_cl h0 ⟨by omega, by omega⟩]; exact k1), k2⟩
theorem Wv.newI {v : Vw} {yx : Int × Int} {n m len : Nat} {R : List Ar} (hl : len ≤ 400) (hw : Cond.arrayClass .int ∈ lw_tbl) (d9 : decode M.cc pc = .ok (.newarray .int, 2)) (k : ∀ a, Wv X h M d (pc + 2) ls (va_rf (some a) :: rest) (v, yx, (n, m), (a, 20, len, fun _ => 0) :: R) o w') : Wv X h M d pc ls (.int (i32 (len : Int)) :: rest) (v, yx, (n + 1, m + len), R) o w' := fun σ hR => by
  obtain ⟨τ, k1, k2⟩ := k σ.sz _ (hR.al (Or.inl rfl))
  have e0 : (0 : Int) ≤ (len : Int) := by omega
  exact ⟨τ, Lv.newA (K := 20) (ti := 0) (j := len) (fun q => by
    have : i32 (len : Int) < i32 0 := q
    rw [i32_lt ⟨by omega, by omega⟩ R32_0] at this
    omega) (by rw [i32_cl e0 ⟨by omega, by omega⟩]; omega) (by omega) (Or.inl rfl) hw d9 k1, k2⟩
theorem Wv.newZ {v : Vw} {yx : Int × Int} {n m len : Nat} {R : List Ar} (hl : len ≤ 400) (hw : Cond.arrayClass .boolean ∈ lw_tbl) (d9 : decode M.cc pc = .ok (.newarray .boolean, 2)) (k : ∀ a, Wv X h M d (pc + 2) ls (va_rf (some a) :: rest) (v, yx, (n, m), (a, 23, len, fun _ => 0) :: R) o w') : Wv X h M d pc ls (.int (i32 (len : Int)) :: rest) (v, yx, (n + 1, m + len), R) o w' := fun σ hR => by
  obtain ⟨τ, k1, k2⟩ := k σ.sz _ (hR.al (Or.inr rfl))
  have e0 : (0 : Int) ≤ (len : Int) := by omega
  exact ⟨τ, Lv.newA (K := 23) (ti := 3) (j := len) (fun q => by
    have : i32 (len : Int) < i32 0 := q
    rw [i32_lt ⟨by omega, by omega⟩ R32_0] at this
    omega) (by rw [i32_cl e0 ⟨by omega, by omega⟩]; omega) (by omega) (Or.inr rfl) hw d9 k1, k2⟩
theorem Wv.max {ix : Nat} {x y : Int} (hx : R32 x) (hy : R32 y) (hw : Cond.methodLink M.y.cls ix Lib.Math.max.name ∈ lw_tbl) (hd : 1 ≤ d) (hsz : (rest.map fun v => v.category).sum ≤ 60) (d9 : decode M.cc pc = .ok (.invokestatic ix, 3)) (k : Wv X h M d (pc + 3) ls (.int (i32 (if x < y then y else x)) :: rest) w o w') : Wv X h M d pc ls (.int (i32 y) :: .int (i32 x) :: rest) w o w' :=
  Wv.lift (fun _ _ _ kq => Lv.max hw hd hsz d9 (by
    have e : (if i32 x < i32 y then i32 y else i32 x) = i32 (if x < y then y else x) := by
      by_cases h : x < y
      · rw [if_pos h, if_pos ((i32_lt hx hy).mpr h)]
      · rw [if_neg h, if_neg (fun q => h ((i32_lt hx hy).mp q))]
    rw [e]
    exact kq)) k
theorem Kl.of {as : List Value} (hp : plainName M.y.cls = true) (hh : M.hh = []) (hlen : as.length ≤ M.ml) (hcat : ∀ v ∈ as, v.category = 1) (k : Wv X h M d 0 (enL M.ml as) [] w o w') : Kl X h M d as w o w' := fun σ hR => by
  obtain ⟨τ, k1, k2⟩ := k σ hR
  exact ⟨τ, Ct.ofL hp hh hlen hcat k1, k2⟩
end WV
section WRULES
variable {X : Cx} {h : Nat} {M : Mt} {d pc : Nat} {ls : List (Option Value)} {rest : List Value} {w w' : Wl} {o : Rs}
theorem Wv.bipush {n : Int} {v : Int32} (d9 : decode M.cc pc = .ok (.bipush n, 2)) (hv : (Int8.ofInt n).toInt32 = v) (k : Wv X h M d (pc + 2) ls (.int v :: rest) w o w') : Wv X h M d pc ls rest w o w' := Wv.lift (fun _ _ _ kq => Lv.bipush d9 hv kq) k
theorem Wv.sipush {n : Int} {v : Int32} (d9 : decode M.cc pc = .ok (.sipush n, 3)) (hv : (Int16.ofInt n).toInt32 = v) (k : Wv X h M d (pc + 3) ls (.int v :: rest) w o w') : Wv X h M d pc ls rest w o w' := Wv.lift (fun _ _ _ kq => Lv.sipush d9 hv kq) k
theorem Wv.iload_n {n : Fin 4} {i : Nat} {x : Int32} (d9 : decode M.cc pc = .ok (.iload_n n, 1)) (hi : (n : Nat) = i) (hx : ls[i]? = some (some (.int x))) (k : Wv X h M d (pc + 1) ls (.int x :: rest) w o w') : Wv X h M d pc ls rest w o w' := Wv.lift (fun _ _ _ kq => Lv.iload_n d9 hi hx kq) k
theorem Wv.iload {i : Nat} {x : Int32} (d9 : decode M.cc pc = .ok (.iload i, 2)) (hx : ls[i]? = some (some (.int x))) (k : Wv X h M d (pc + 2) ls (.int x :: rest) w o w') : Wv X h M d pc ls rest w o w' := Wv.lift (fun _ _ _ kq => Lv.iload d9 hx kq) k
theorem Wv.fload {i : Nat} {x : UInt32} (d9 : decode M.cc pc = .ok (.fload i, 2)) (hx : ls[i]? = some (some (.float x))) (k : Wv X h M d (pc + 2) ls (.float x :: rest) w o w') : Wv X h M d pc ls rest w o w' := Wv.lift (fun _ _ _ kq => Lv.fload d9 hx kq) k
theorem Wv.istore {i : Nat} {x : Int32} (d9 : decode M.cc pc = .ok (.istore i, 2)) (hn : i < M.ml) (hz : isL (ls[i - 1]?) = false) (k : Wv X h M d (pc + 2) (ls.set i (some (.int x))) rest w o w') : Wv X h M d pc ls (.int x :: rest) w o w' := Wv.lift (fun _ _ _ kq => Lv.istore d9 hn hz kq) k
theorem Wv.fstore {i : Nat} {x : UInt32} (d9 : decode M.cc pc = .ok (.fstore i, 2)) (hn : i < M.ml) (hz : isL (ls[i - 1]?) = false) (k : Wv X h M d (pc + 2) (ls.set i (some (.float x))) rest w o w') : Wv X h M d pc ls (.float x :: rest) w o w' := Wv.lift (fun _ _ _ kq => Lv.fstore d9 hn hz kq) k
theorem Wv.istore_n {n : Fin 4} {i : Nat} {x : Int32} (d9 : decode M.cc pc = .ok (.istore_n n, 1)) (hi : (n : Nat) = i) (hn : i < M.ml) (hz : isL (ls[i - 1]?) = false) (k : Wv X h M d (pc + 1) (ls.set i (some (.int x))) rest w o w') : Wv X h M d pc ls (.int x :: rest) w o w' := Wv.lift (fun _ _ _ kq => Lv.istore_n d9 hi hn hz kq) k
theorem Wv.astore_n {n : Fin 4} {i : Nat} {r : Option Nat} (d9 : decode M.cc pc = .ok (.astore_n n, 1)) (hi : (n : Nat) = i) (hn : i < M.ml) (hz : isL (ls[i - 1]?) = false) (k : Wv X h M d (pc + 1) (ls.set i (some (va_rf r))) rest w o w') : Wv X h M d pc ls (va_rf r :: rest) w o w' := Wv.lift (fun _ _ _ kq => Lv.astore_n d9 hi hn hz kq) k
theorem Wv.astore {i : Nat} {r : Option Nat} (d9 : decode M.cc pc = .ok (.astore i, 2)) (hn : i < M.ml) (hz : isL (ls[i - 1]?) = false) (k : Wv X h M d (pc + 2) (ls.set i (some (va_rf r))) rest w o w') : Wv X h M d pc ls (va_rf r :: rest) w o w' := Wv.lift (fun _ _ _ kq => Lv.astore d9 hn hz kq) k
theorem Wv.iand {x y : Int32} (d9 : decode M.cc pc = .ok (.iand, 1)) (k : Wv X h M d (pc + 1) ls (.int (x &&& y) :: rest) w o w') : Wv X h M d pc ls (.int y :: .int x :: rest) w o w' := Wv.lift (fun _ _ _ kq => Lv.iand d9 kq) k
theorem Wv.i2l {x : Int32} {v : Int64} (d9 : decode M.cc pc = .ok (.i2l, 1)) (hv : x.toInt64 = v) (k : Wv X h M d (pc + 1) ls (.long v :: rest) w o w') : Wv X h M d pc ls (.int x :: rest) w o w' := Wv.lift (fun _ _ _ kq => Lv.i2l d9 hv kq) k
theorem Wv.fconst0 (d9 : decode M.cc pc = .ok (.fconst 0, 1)) (k : Wv X h M d (pc + 1) ls (.float 0 :: rest) w o w') : Wv X h M d pc ls rest w o w' := Wv.lift (fun _ _ _ kq => Lv.fconst0 d9 kq) k
theorem Wv.fcmp {x y : UInt32} {op : CmpOp} (d9 : decode M.cc pc = .ok (.fcmp op, 1)) (k : Wv X h M d (pc + 1) ls (.int (Op.cmpValue (FP.fcmp x y) op) :: rest) w o w') : Wv X h M d pc ls (.float y :: .float x :: rest) w o w' := Wv.lift (fun _ _ _ kq => Lv.fcmp d9 kq) k
theorem Wv.lcmp {x y : Int64} (d9 : decode M.cc pc = .ok (.lcmp, 1)) (k : Wv X h M d (pc + 1) ls (.int (lg_cmp x y) :: rest) w o w') : Wv X h M d pc ls (.long y :: .long x :: rest) w o w' := Wv.lift (fun _ _ _ kq => Lv.lcmp d9 kq) k
theorem Wv.dup {va : Value} (d9 : decode M.cc pc = .ok (.dup, 1)) (hc : va.category = 1) (k : Wv X h M d (pc + 1) ls (va :: va :: rest) w o w') : Wv X h M d pc ls (va :: rest) w o w' := Wv.lift (fun _ _ _ kq => Lv.dup d9 hc kq) k
theorem Wv.pop {va : Value} (d9 : decode M.cc pc = .ok (.pop, 1)) (hc : va.category = 1) (k : Wv X h M d (pc + 1) ls rest w o w') : Wv X h M d pc ls (va :: rest) w o w' := Wv.lift (fun _ _ _ kq => Lv.pop d9 hc kq) k
theorem Wv.dup2 {va vb : Value} (d9 : decode M.cc pc = .ok (.dup2, 1)) (hc : va.category = 1) (hc2 : vb.category = 1) (k : Wv X h M d (pc + 1) ls (va :: vb :: va :: vb :: rest) w o w') : Wv X h M d pc ls (va :: vb :: rest) w o w' := Wv.lift (fun _ _ _ kq => Lv.dup2 d9 hc hc2 kq) k
theorem Wv.goto {off : Int} {tgt : Nat} (d9 : decode M.cc pc = .ok (.goto off, 3)) (ht : (pc : Int) + off = (tgt : Int)) (k : Wv X h M d tgt ls rest w o w') : Wv X h M d pc ls rest w o w' := Wv.lift (fun _ _ _ kq => Lv.goto d9 ht kq) k
theorem Wv.ldc {ix : Nat} {v : Int32} (d9 : decode M.cc pc = .ok (.ldc ix, 2)) (hw : (Jvm.Cond.constant M.y.cls ix v) ∈ lw_tbl) (hg : goodWord (Jvm.Cond.constant M.y.cls ix v) = true) (k : Wv X h M d (pc + 2) ls (.int v :: rest) w o w') : Wv X h M d pc ls rest w o w' := Wv.lift (fun _ _ _ kq => Lv.ldc d9 hw hg kq) k
theorem Wv.iushr {x y v : Int32} (d9 : decode M.cc pc = .ok (.iushr, 1)) (hv : (x.toUInt32 >>> (y.toUInt32 &&& Int32.toUInt32 31)).toInt32 = v) (k : Wv X h M d (pc + 1) ls (.int v :: rest) w o w') : Wv X h M d pc ls (.int y :: .int x :: rest) w o w' := Wv.lift (fun _ _ _ kq => Lv.iushr d9 hv kq) k
theorem Wv.ladd {x y : Int64} (d9 : decode M.cc pc = .ok (.ladd, 1)) (k : Wv X h M d (pc + 1) ls (.long (x + y) :: rest) w o w') : Wv X h M d pc ls (.long y :: .long x :: rest) w o w' := Wv.lift (fun _ _ _ kq => Lv.ladd d9 kq) k
theorem Wv.lmul {x y : Int64} (d9 : decode M.cc pc = .ok (.lmul, 1)) (k : Wv X h M d (pc + 1) ls (.long (x * y) :: rest) w o w') : Wv X h M d pc ls (.long y :: .long x :: rest) w o w' := Wv.lift (fun _ _ _ kq => Lv.lmul d9 kq) k
theorem Wv.lload_n {n : Fin 4} {i : Nat} {x : Int64} (d9 : decode M.cc pc = .ok (.lload_n n, 1)) (hi : (n : Nat) = i) (hx : ls[i]? = some (some (.long x))) (k : Wv X h M d (pc + 1) ls (.long x :: rest) w o w') : Wv X h M d pc ls rest w o w' := Wv.lift (fun _ _ _ kq => Lv.lload_n d9 hi hx kq) k
theorem Wv.lload {i : Nat} {x : Int64} (d9 : decode M.cc pc = .ok (.lload i, 2)) (hx : ls[i]? = some (some (.long x))) (k : Wv X h M d (pc + 2) ls (.long x :: rest) w o w') : Wv X h M d pc ls rest w o w' := Wv.lift (fun _ _ _ kq => Lv.lload d9 hx kq) k
theorem Wv.lstore_n {n : Fin 4} {i : Nat} {x : Int64} (d9 : decode M.cc pc = .ok (.lstore_n n, 1)) (hi : (n : Nat) = i) (hn : i + 1 < M.ml) (hz : isL (ls[i - 1]?) = false) (k : Wv X h M d (pc + 1) ((ls.set i (some (.long x))).set (i + 1) none) rest w o w') : Wv X h M d pc ls (.long x :: rest) w o w' := Wv.lift (fun _ _ _ kq => Lv.lstore_n d9 hi hn hz kq) k
theorem Wv.lstore {i : Nat} {x : Int64} (d9 : decode M.cc pc = .ok (.lstore i, 2)) (hn : i + 1 < M.ml) (hz : isL (ls[i - 1]?) = false) (k : Wv X h M d (pc + 2) ((ls.set i (some (.long x))).set (i + 1) none) rest w o w') : Wv X h M d pc ls (.long x :: rest) w o w' := Wv.lift (fun _ _ _ kq => Lv.lstore d9 hn hz kq) k
theorem Wv.fconst1 (d9 : decode M.cc pc = .ok (.fconst 1, 1)) (k : Wv X h M d (pc + 1) ls (.float 1065353216 :: rest) w o w') : Wv X h M d pc ls rest w o w' := Wv.lift (fun _ _ _ kq => Lv.fconst1 d9 kq) k
theorem Wv.ldcf {ix : Nat} {v : UInt32} (d9 : decode M.cc pc = .ok (.ldc ix, 2)) (hw : (Jvm.Cond.constantFloat M.y.cls ix v) ∈ lw_tbl) (hg : goodWord (Jvm.Cond.constantFloat M.y.cls ix v) = true) (k : Wv X h M d (pc + 2) ls (.float v :: rest) w o w') : Wv X h M d pc ls rest w o w' := Wv.lift (fun _ _ _ kq => Lv.ldcf d9 hw hg kq) k
theorem Wv.ldc2 {ix : Nat} {v : Int64} (d9 : decode M.cc pc = .ok (.ldc2_w ix, 3)) (hw : (Jvm.Cond.constantLong M.y.cls ix v) ∈ lw_tbl) (hg : goodWord (Jvm.Cond.constantLong M.y.cls ix v) = true) (k : Wv X h M d (pc + 3) ls (.long v :: rest) w o w') : Wv X h M d pc ls rest w o w' := Wv.lift (fun _ _ _ kq => Lv.ldc2 d9 hw hg kq) k
theorem Wv.sld {i : Int32} (hin : vp_in i X.sL) (d9 : decode M.cc pc = .ok (.iaload, 1)) (k : Wv X h M d (pc + 1) ls (.int (X.xs i.toNatClampNeg) :: rest) w o w') : Wv X h M d pc ls (.int i :: va_rf (some X.sb) :: rest) w o w' := Wv.lift (fun _ _ _ kq => Lv.sld hin d9 kq) k
theorem Wv.slen (d9 : decode M.cc pc = .ok (.arraylength, 1)) (k : Wv X h M d (pc + 1) ls (.int (Int32.ofNat X.sL) :: rest) w o w') : Wv X h M d pc ls (va_rf (some X.sb) :: rest) w o w' := Wv.lift (fun _ _ _ kq => Lv.slen d9 kq) k
theorem Wi.add {a b : Int} (d9 : decode M.cc pc = .ok (.iadd, 1)) (k : Wv X h M d (pc + 1) ls (.int (i32 (a + b)) :: rest) w o w') : Wv X h M d pc ls (.int (i32 b) :: .int (i32 a) :: rest) w o w' := Wv.lift (fun _ _ _ kq => Li.add d9 kq) k
theorem Wi.sub {a b : Int} (d9 : decode M.cc pc = .ok (.isub, 1)) (k : Wv X h M d (pc + 1) ls (.int (i32 (a - b)) :: rest) w o w') : Wv X h M d pc ls (.int (i32 b) :: .int (i32 a) :: rest) w o w' := Wv.lift (fun _ _ _ kq => Li.sub d9 kq) k
theorem Wi.mul {a b : Int} (d9 : decode M.cc pc = .ok (.imul, 1)) (k : Wv X h M d (pc + 1) ls (.int (i32 (a * b)) :: rest) w o w') : Wv X h M d pc ls (.int (i32 b) :: .int (i32 a) :: rest) w o w' := Wv.lift (fun _ _ _ kq => Li.mul d9 kq) k
theorem Wi.const {n : Int} (d9 : decode M.cc pc = .ok (.iconst n, 1)) (k : Wv X h M d (pc + 1) ls (.int (i32 n) :: rest) w o w') : Wv X h M d pc ls rest w o w' := Wv.lift (fun _ _ _ kq => Li.const d9 kq) k
theorem Wi.inc {i : Nat} {n a : Int} (d9 : decode M.cc pc = .ok (.iinc i n, 3)) (hx : ls[i]? = some (some (.int (i32 a)))) (hn : i < M.ml) (hz : isL (ls[i - 1]?) = false) (k : Wv X h M d (pc + 3) (ls.set i (some (.int (i32 (a + n))))) rest w o w') : Wv X h M d pc ls rest w o w' := Wv.lift (fun _ _ _ kq => Li.inc d9 hx hn hz kq) k
theorem Wi.icmp_eq_t {a b : Int} {off : Int} {tgt : Nat} (d9 : decode M.cc pc = .ok (.if_icmp .eq off, 3)) (ht : (pc : Int) + off = (tgt : Int)) (ha : R32 a) (hb : R32 b) (hc : a = b) (k : Wv X h M d tgt ls rest w o w') : Wv X h M d pc ls (.int (i32 b) :: .int (i32 a) :: rest) w o w' := Wv.lift (fun _ _ _ kq => Li.icmp_eq_t d9 ht ha hb hc kq) k
theorem Wi.icmp_eq_f {a b : Int} {off : Int} {tgt : Nat} (d9 : decode M.cc pc = .ok (.if_icmp .eq off, 3)) (ht : (pc : Int) + off = (tgt : Int)) (ha : R32 a) (hb : R32 b) (hc : ¬ (a = b)) (k : Wv X h M d (pc + 3) ls rest w o w') : Wv X h M d pc ls (.int (i32 b) :: .int (i32 a) :: rest) w o w' := Wv.lift (fun _ _ _ kq => Li.icmp_eq_f d9 ht ha hb hc kq) k
theorem Wi.if_eq_t {a : Int} {off : Int} {tgt : Nat} (d9 : decode M.cc pc = .ok (.ifCond .eq off, 3)) (ht : (pc : Int) + off = (tgt : Int)) (ha : R32 a) (hc : a = 0) (k : Wv X h M d tgt ls rest w o w') : Wv X h M d pc ls (.int (i32 a) :: rest) w o w' := Wv.lift (fun _ _ _ kq => Li.if_eq_t d9 ht ha hc kq) k
theorem Wi.if_eq_f {a : Int} {off : Int} {tgt : Nat} (d9 : decode M.cc pc = .ok (.ifCond .eq off, 3)) (ht : (pc : Int) + off = (tgt : Int)) (ha : R32 a) (hc : ¬ (a = 0)) (k : Wv X h M d (pc + 3) ls rest w o w') : Wv X h M d pc ls (.int (i32 a) :: rest) w o w' := Wv.lift (fun _ _ _ kq => Li.if_eq_f d9 ht ha hc kq) k
theorem Wi.icmp_ne_t {a b : Int} {off : Int} {tgt : Nat} (d9 : decode M.cc pc = .ok (.if_icmp .ne off, 3)) (ht : (pc : Int) + off = (tgt : Int)) (ha : R32 a) (hb : R32 b) (hc : ¬ a = b) (k : Wv X h M d tgt ls rest w o w') : Wv X h M d pc ls (.int (i32 b) :: .int (i32 a) :: rest) w o w' := Wv.lift (fun _ _ _ kq => Li.icmp_ne_t d9 ht ha hb hc kq) k
theorem Wi.icmp_ne_f {a b : Int} {off : Int} {tgt : Nat} (d9 : decode M.cc pc = .ok (.if_icmp .ne off, 3)) (ht : (pc : Int) + off = (tgt : Int)) (ha : R32 a) (hb : R32 b) (hc : ¬ (¬ a = b)) (k : Wv X h M d (pc + 3) ls rest w o w') : Wv X h M d pc ls (.int (i32 b) :: .int (i32 a) :: rest) w o w' := Wv.lift (fun _ _ _ kq => Li.icmp_ne_f d9 ht ha hb hc kq) k
theorem Wi.if_ne_t {a : Int} {off : Int} {tgt : Nat} (d9 : decode M.cc pc = .ok (.ifCond .ne off, 3)) (ht : (pc : Int) + off = (tgt : Int)) (ha : R32 a) (hc : ¬ a = 0) (k : Wv X h M d tgt ls rest w o w') : Wv X h M d pc ls (.int (i32 a) :: rest) w o w' := Wv.lift (fun _ _ _ kq => Li.if_ne_t d9 ht ha hc kq) k
theorem Wi.if_ne_f {a : Int} {off : Int} {tgt : Nat} (d9 : decode M.cc pc = .ok (.ifCond .ne off, 3)) (ht : (pc : Int) + off = (tgt : Int)) (ha : R32 a) (hc : ¬ (¬ a = 0)) (k : Wv X h M d (pc + 3) ls rest w o w') : Wv X h M d pc ls (.int (i32 a) :: rest) w o w' := Wv.lift (fun _ _ _ kq => Li.if_ne_f d9 ht ha hc kq) k
theorem Wi.icmp_lt_t {a b : Int} {off : Int} {tgt : Nat} (d9 : decode M.cc pc = .ok (.if_icmp .lt off, 3)) (ht : (pc : Int) + off = (tgt : Int)) (ha : R32 a) (hb : R32 b) (hc : a < b) (k : Wv X h M d tgt ls rest w o w') : Wv X h M d pc ls (.int (i32 b) :: .int (i32 a) :: rest) w o w' := Wv.lift (fun _ _ _ kq => Li.icmp_lt_t d9 ht ha hb hc kq) k
theorem Wi.icmp_lt_f {a b : Int} {off : Int} {tgt : Nat} (d9 : decode M.cc pc = .ok (.if_icmp .lt off, 3)) (ht : (pc : Int) + off = (tgt : Int)) (ha : R32 a) (hb : R32 b) (hc : ¬ (a < b)) (k : Wv X h M d (pc + 3) ls rest w o w') : Wv X h M d pc ls (.int (i32 b) :: .int (i32 a) :: rest) w o w' := Wv.lift (fun _ _ _ kq => Li.icmp_lt_f d9 ht ha hb hc kq) k
theorem Wi.if_lt_t {a : Int} {off : Int} {tgt : Nat} (d9 : decode M.cc pc = .ok (.ifCond .lt off, 3)) (ht : (pc : Int) + off = (tgt : Int)) (ha : R32 a) (hc : a < 0) (k : Wv X h M d tgt ls rest w o w') : Wv X h M d pc ls (.int (i32 a) :: rest) w o w' := Wv.lift (fun _ _ _ kq => Li.if_lt_t d9 ht ha hc kq) k
theorem Wi.if_lt_f {a : Int} {off : Int} {tgt : Nat} (d9 : decode M.cc pc = .ok (.ifCond .lt off, 3)) (ht : (pc : Int) + off = (tgt : Int)) (ha : R32 a) (hc : ¬ (a < 0)) (k : Wv X h M d (pc + 3) ls rest w o w') : Wv X h M d pc ls (.int (i32 a) :: rest) w o w' := Wv.lift (fun _ _ _ kq => Li.if_lt_f d9 ht ha hc kq) k
theorem Wi.icmp_ge_t {a b : Int} {off : Int} {tgt : Nat} (d9 : decode M.cc pc = .ok (.if_icmp .ge off, 3)) (ht : (pc : Int) + off = (tgt : Int)) (ha : R32 a) (hb : R32 b) (hc : b ≤ a) (k : Wv X h M d tgt ls rest w o w') : Wv X h M d pc ls (.int (i32 b) :: .int (i32 a) :: rest) w o w' := Wv.lift (fun _ _ _ kq => Li.icmp_ge_t d9 ht ha hb hc kq) k
theorem Wi.icmp_ge_f {a b : Int} {off : Int} {tgt : Nat} (d9 : decode M.cc pc = .ok (.if_icmp .ge off, 3)) (ht : (pc : Int) + off = (tgt : Int)) (ha : R32 a) (hb : R32 b) (hc : ¬ (b ≤ a)) (k : Wv X h M d (pc + 3) ls rest w o w') : Wv X h M d pc ls (.int (i32 b) :: .int (i32 a) :: rest) w o w' := Wv.lift (fun _ _ _ kq => Li.icmp_ge_f d9 ht ha hb hc kq) k
theorem Wi.if_ge_t {a : Int} {off : Int} {tgt : Nat} (d9 : decode M.cc pc = .ok (.ifCond .ge off, 3)) (ht : (pc : Int) + off = (tgt : Int)) (ha : R32 a) (hc : 0 ≤ a) (k : Wv X h M d tgt ls rest w o w') : Wv X h M d pc ls (.int (i32 a) :: rest) w o w' := Wv.lift (fun _ _ _ kq => Li.if_ge_t d9 ht ha hc kq) k
theorem Wi.if_ge_f {a : Int} {off : Int} {tgt : Nat} (d9 : decode M.cc pc = .ok (.ifCond .ge off, 3)) (ht : (pc : Int) + off = (tgt : Int)) (ha : R32 a) (hc : ¬ (0 ≤ a)) (k : Wv X h M d (pc + 3) ls rest w o w') : Wv X h M d pc ls (.int (i32 a) :: rest) w o w' := Wv.lift (fun _ _ _ kq => Li.if_ge_f d9 ht ha hc kq) k
theorem Wi.icmp_gt_t {a b : Int} {off : Int} {tgt : Nat} (d9 : decode M.cc pc = .ok (.if_icmp .gt off, 3)) (ht : (pc : Int) + off = (tgt : Int)) (ha : R32 a) (hb : R32 b) (hc : b < a) (k : Wv X h M d tgt ls rest w o w') : Wv X h M d pc ls (.int (i32 b) :: .int (i32 a) :: rest) w o w' := Wv.lift (fun _ _ _ kq => Li.icmp_gt_t d9 ht ha hb hc kq) k
theorem Wi.icmp_gt_f {a b : Int} {off : Int} {tgt : Nat} (d9 : decode M.cc pc = .ok (.if_icmp .gt off, 3)) (ht : (pc : Int) + off = (tgt : Int)) (ha : R32 a) (hb : R32 b) (hc : ¬ (b < a)) (k : Wv X h M d (pc + 3) ls rest w o w') : Wv X h M d pc ls (.int (i32 b) :: .int (i32 a) :: rest) w o w' := Wv.lift (fun _ _ _ kq => Li.icmp_gt_f d9 ht ha hb hc kq) k
theorem Wi.if_gt_t {a : Int} {off : Int} {tgt : Nat} (d9 : decode M.cc pc = .ok (.ifCond .gt off, 3)) (ht : (pc : Int) + off = (tgt : Int)) (ha : R32 a) (hc : 0 < a) (k : Wv X h M d tgt ls rest w o w') : Wv X h M d pc ls (.int (i32 a) :: rest) w o w' := Wv.lift (fun _ _ _ kq => Li.if_gt_t d9 ht ha hc kq) k
theorem Wi.if_gt_f {a : Int} {off : Int} {tgt : Nat} (d9 : decode M.cc pc = .ok (.ifCond .gt off, 3)) (ht : (pc : Int) + off = (tgt : Int)) (ha : R32 a) (hc : ¬ (0 < a)) (k : Wv X h M d (pc + 3) ls rest w o w') : Wv X h M d pc ls (.int (i32 a) :: rest) w o w' := Wv.lift (fun _ _ _ kq => Li.if_gt_f d9 ht ha hc kq) k
theorem Wi.icmp_le_t {a b : Int} {off : Int} {tgt : Nat} (d9 : decode M.cc pc = .ok (.if_icmp .le off, 3)) (ht : (pc : Int) + off = (tgt : Int)) (ha : R32 a) (hb : R32 b) (hc : a ≤ b) (k : Wv X h M d tgt ls rest w o w') : Wv X h M d pc ls (.int (i32 b) :: .int (i32 a) :: rest) w o w' := Wv.lift (fun _ _ _ kq => Li.icmp_le_t d9 ht ha hb hc kq) k
theorem Wi.icmp_le_f {a b : Int} {off : Int} {tgt : Nat} (d9 : decode M.cc pc = .ok (.if_icmp .le off, 3)) (ht : (pc : Int) + off = (tgt : Int)) (ha : R32 a) (hb : R32 b) (hc : ¬ (a ≤ b)) (k : Wv X h M d (pc + 3) ls rest w o w') : Wv X h M d pc ls (.int (i32 b) :: .int (i32 a) :: rest) w o w' := Wv.lift (fun _ _ _ kq => Li.icmp_le_f d9 ht ha hb hc kq) k
theorem Wi.if_le_t {a : Int} {off : Int} {tgt : Nat} (d9 : decode M.cc pc = .ok (.ifCond .le off, 3)) (ht : (pc : Int) + off = (tgt : Int)) (ha : R32 a) (hc : a ≤ 0) (k : Wv X h M d tgt ls rest w o w') : Wv X h M d pc ls (.int (i32 a) :: rest) w o w' := Wv.lift (fun _ _ _ kq => Li.if_le_t d9 ht ha hc kq) k
theorem Wi.if_le_f {a : Int} {off : Int} {tgt : Nat} (d9 : decode M.cc pc = .ok (.ifCond .le off, 3)) (ht : (pc : Int) + off = (tgt : Int)) (ha : R32 a) (hc : ¬ (a ≤ 0)) (k : Wv X h M d (pc + 3) ls rest w o w') : Wv X h M d pc ls (.int (i32 a) :: rest) w o w' := Wv.lift (fun _ _ _ kq => Li.if_le_f d9 ht ha hc kq) k
theorem Wv.irem {x y : Int32} (d9 : decode M.cc pc = .ok (.irem, 1)) (hne : ¬ y = 0) (k : Wv X h M d (pc + 1) ls (.int (x - x / y * y) :: rest) w o w') : Wv X h M d pc ls (.int y :: .int x :: rest) w o w' := Wv.lift (fun _ _ _ kq => Lv.irem d9 hne kq) k
theorem Wi.rem {a n : Int} (h0 : 0 ≤ a) (ha : R32 a) (h1 : 0 < n) (hn : R32 n) (d9 : decode M.cc pc = .ok (.irem, 1)) (k : Wv X h M d (pc + 1) ls (.int (i32 (a % n)) :: rest) w o w') : Wv X h M d pc ls (.int (i32 n) :: .int (i32 a) :: rest) w o w' := Wv.lift (fun _ _ _ kq => Li.rem h0 ha h1 hn d9 kq) k
theorem Wv.aload_n {n : Fin 4} {i : Nat} {r : Option Nat} (d9 : decode M.cc pc = .ok (.aload_n n, 1)) (hi : (n : Nat) = i) (hx : ls[i]? = some (some (va_rf r))) (k : Wv X h M d (pc + 1) ls (va_rf r :: rest) w o w') : Wv X h M d pc ls rest w o w' := Wv.lift (fun _ _ _ kq => Lv.aload_n d9 hi hx kq) k
theorem Wv.aload {i : Nat} {r : Option Nat} (d9 : decode M.cc pc = .ok (.aload i, 2)) (hx : ls[i]? = some (some (va_rf r))) (k : Wv X h M d (pc + 2) ls (va_rf r :: rest) w o w') : Wv X h M d pc ls rest w o w' := Wv.lift (fun _ _ _ kq => Lv.aload d9 hx kq) k
end WRULES
