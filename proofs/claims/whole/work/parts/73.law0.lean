/-! the law's heap: the class's objects, the model, the two rows that take answers -/
theorem CS.fg {X : Cx} {ρ σ τ : Hp} {A : Nat → Int → Nat} {c : Cs} {B : Int → Nat} (h : CS X ρ σ A c B) (hk : τ.kd = σ.kd) (hl : τ.ln = σ.ln) (hr : τ.rv = σ.rv) (hi : ∀ a, ¬ fgn (σ.kd a) → τ.iv a = σ.iv a) (hsz : τ.sz = σ.sz) (hcl : τ.cl = σ.cl) (hsl : τ.sl = σ.sl) : CS X τ τ A c B := by
  obtain ⟨⟨w, kd, inj, iv, rv, ll, ap, fg, rm⟩, hf⟩ := h
  have w' : WF X τ := by
    unfold WF
    rw [hsz, hk]
    exact w
  have nf : ∀ ci i, rg c ci i → ¬ fgn (σ.kd (A ci i)) := fun ci i hr9 q => by
    have := kd ci i hr9
    have h2 := hr9.1
    unfold fgn at q
    omega
  have cp : ∀ b, cap X τ b = cap X σ b := fun b => by
    unfold cap
    rw [hl]
  refine ⟨⟨w', fun ci i q => by rw [hk]; exact kd ci i q, inj, fun ci k i q h3 h4 => ?_, fun ci k i q h3 h4 => ?_, fun l h0 h1 => ⟨?_, (ll l h0 h1).2⟩, ap, ⟨Nat.le_refl _, fun a ha => ⟨?_, rfl, rfl, rfl, rfl, rfl, rfl⟩⟩, rm.1, ?_, ?_⟩, hf⟩
  · rw [hi _ (nf ci i q)]
    exact iv ci k i q h3 h4
  · rw [hr]
    exact rv ci k i q h3 h4
  · refine (ll l h0 h1).1.congr (by rw [hk]) ?_ (by rw [hr]) (fun _ => ⟨by rw [hl], by rw [hr]⟩) (fun _ _ => by rw [hk])
    rw [hi _ (nf 2 l ⟨⟨by decide, by decide⟩, h0, h1⟩)]
  · refine (w'.2.2 a ?_).2
    exact (fgn_no ha).2.2
  · rw [hcl, sF_congr (f := fun l => cap X σ (B l)) _ (fun i _ _ => cp _)]
    exact rm.2.1
  · rw [hsl, sF_congr (f := fun l => cap X σ (B l) * cap X σ (B l)) _ (fun i _ _ => by show cap X τ (B i) * cap X τ (B i) = _; rw [cp])]
    exact rm.2.2
def LW (X : Cx) (σ : Hp) (A : Nat → Int → Nat) (c : Cs) (B : Int → Nat) (m0 oL oD : Nat) (v : Vw) : Prop := CS X σ σ A c B ∧ (GM σ m0 ∧ Hm σ m0 v = σ) ∧ (σ.kd oL = 21 ∧ σ.ln oL = 1) ∧ σ.kd oD = 22 ∧ σ.ln oD = 1
theorem mKd_f {k : Nat} : fgn (mKd k) := by
  unfold fgn mKd
  split <;> omega
theorem GM.at {σ : Hp} {m0 : Nat} (h : GM σ m0) {a : Nat} (h1 : m0 < a) (h2 : a < m0 + 36) : fgn (σ.kd a) := by
  have g := (h.2 (a - m0 + 11) (by omega) (by omega)).2.1
  rw [show m0 + (a - m0 + 11 - 11) = a by omega] at g
  rw [g]
  exact mKd_f
theorem Hm_eq {σ : Hp} {m0 : Nat} {v : Vw} (h : ∀ a j, σ.iv a j = if a = m0 then (if j < 12 then i32 (v j 0) else σ.iv a j) else if m0 < a ∧ a < m0 + 36 then i32 (v (a - m0 + 11) (j : Int)) else σ.iv a j) : Hm σ m0 v = σ := by
  refine Prod.ext rfl (Prod.ext rfl (Prod.ext (funext fun a => funext fun j => ?_) rfl))
  exact (h a j).symm
theorem Hm_at {σ : Hp} {m0 : Nat} {v : Vw} (h : Hm σ m0 v = σ) (a j : Nat) : σ.iv a j = if a = m0 then (if j < 12 then i32 (v j 0) else σ.iv a j) else if m0 < a ∧ a < m0 + 36 then i32 (v (a - m0 + 11) (j : Int)) else σ.iv a j := by
  have := congrFun (congrFun (congrArg Hp.iv h) a) j
  exact this.symm
/-- after a call of the class -/
theorem LW.call {X : Cx} {σ τ : Hp} {A A' : Nat → Int → Nat} {c c' : Cs} {B B' : Int → Nat} {m0 oL oD : Nat} {v : Vw} (h : LW X σ A c B m0 oL oD v) (hC : CS X σ τ A' c' B') : LW X τ A' c' B' m0 oL oD v ∧ τ.lv oL = σ.lv oL ∧ τ.dv oD = σ.dv oD := by
  obtain ⟨_, ⟨hG, hH⟩, ⟨l1, l2⟩, d1, d2⟩ := h
  have fg := hC.1.2.2.2.2.2.2.2.1.2
  have f15 : fgn (σ.kd m0) := Or.inl hG.1
  have fL : fgn (σ.kd oL) := Or.inr (by omega)
  have fD : fgn (σ.kd oD) := Or.inr (by omega)
  have gL := fg oL fL
  have gD := fg oD fD
  have g0 := fg m0 f15
  refine ⟨⟨hC.fg rfl rfl rfl (fun _ _ => rfl) rfl rfl rfl, ⟨⟨g0.2.1.trans hG.1, fun k k1 k2 => ?_⟩, Hm_eq (fun a j => ?_)⟩, ⟨gL.2.1.trans l1, gL.2.2.1.trans l2⟩, gD.2.1.trans d1, gD.2.2.1.trans d2⟩, gL.2.2.2.2.2.1, gD.2.2.2.2.2.2⟩
  · obtain ⟨q1, q2, q3⟩ := hG.2 k k1 k2
    have ga := fg (m0 + (k - 11)) (by rw [q2]; exact mKd_f)
    exact ⟨by rw [g0.2.2.2.2.1]; exact q1, ga.2.1.trans q2, ga.2.2.1.trans q3⟩
  · have hA := Hm_at hH a j
    by_cases e : a = m0
    · subst e
      rw [if_pos rfl] at hA ⊢
      rw [g0.2.2.2.1]
      exact hA
    · rw [if_neg e] at hA ⊢
      by_cases e2 : m0 < a ∧ a < m0 + 36
      · rw [if_pos e2] at hA ⊢
        rw [(fg a (hG.at e2.1 e2.2)).2.2.2.1]
        exact hA
      · rw [if_neg e2]
/-- after a call of the model -/
theorem LW.mod {X : Cx} {σ : Hp} {A : Nat → Int → Nat} {c : Cs} {B : Int → Nat} {m0 oL oD : Nat} {v : Vw} (w : Vw) (h : LW X σ A c B m0 oL oD v) : LW X (Hm σ m0 w) A c B m0 oL oD w := by
  obtain ⟨hC, ⟨hG, hH⟩, h3⟩ := h
  refine ⟨hC.fg rfl rfl rfl (fun a ha => funext fun j => ?_) rfl rfl rfl, ⟨hG, Hm_eq (fun a j => ?_)⟩, h3⟩
  · show (if a = m0 then (if j < 12 then i32 (w j 0) else σ.iv a j) else if m0 < a ∧ a < m0 + 36 then i32 (w (a - m0 + 11) (j : Int)) else σ.iv a j) = σ.iv a j
    rw [if_neg (fun e => ha (by rw [e]; exact Or.inl hG.1)), if_neg (fun e => ha (hG.at e.1 e.2))]
  · show (if a = m0 then (if j < 12 then i32 (w j 0) else σ.iv a j) else if m0 < a ∧ a < m0 + 36 then i32 (w (a - m0 + 11) (j : Int)) else σ.iv a j) = (if a = m0 then (if j < 12 then i32 (w j 0) else (if a = m0 then (if j < 12 then i32 (w j 0) else σ.iv a j) else if m0 < a ∧ a < m0 + 36 then i32 (w (a - m0 + 11) (j : Int)) else σ.iv a j)) else if m0 < a ∧ a < m0 + 36 then i32 (w (a - m0 + 11) (j : Int)) else (if a = m0 then (if j < 12 then i32 (w j 0) else σ.iv a j) else if m0 < a ∧ a < m0 + 36 then i32 (w (a - m0 + 11) (j : Int)) else σ.iv a j))
    by_cases e : a = m0
    · rw [if_pos e, if_pos e]
      by_cases e3 : j < 12
      · rw [if_pos e3, if_pos e3]
      · rw [if_neg e3, if_neg e3]
    · rw [if_neg e, if_neg e]
      by_cases e2 : m0 < a ∧ a < m0 + 36
      · rw [if_pos e2, if_pos e2]
      · rw [if_neg e2, if_neg e2]
theorem LW.setL {X : Cx} {σ : Hp} {A : Nat → Int → Nat} {c : Cs} {B : Int → Nat} {m0 oL oD : Nat} {v : Vw} (k : Nat) (x : Int64) (h : LW X σ A c B m0 oL oD v) : LW X (σ.setL oL k x) A c B m0 oL oD v := by
  obtain ⟨hC, ⟨hG, hH⟩, h3⟩ := h
  exact ⟨hC.fg rfl rfl rfl (fun a ha => rfl) rfl rfl rfl, ⟨hG, Hm_eq (fun a j => Hm_at hH a j)⟩, h3⟩
theorem LW.setD {X : Cx} {σ : Hp} {A : Nat → Int → Nat} {c : Cs} {B : Int → Nat} {m0 oL oD : Nat} {v : Vw} (k : Nat) (x : UInt64) (h : LW X σ A c B m0 oL oD v) : LW X (σ.setD oD k x) A c B m0 oL oD v := by
  obtain ⟨hC, ⟨hG, hH⟩, h3⟩ := h
  exact ⟨hC.fg rfl rfl rfl (fun a ha => rfl) rfl rfl rfl, ⟨hG, Hm_eq (fun a j => Hm_at hH a j)⟩, h3⟩
