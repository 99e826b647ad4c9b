/-! both sides at the start -/
theorem v00_0 {k : Nat} {i : Int} (h : k ≠ 3) : v00 k i = 0 := if_neg (fun q => h q.1)
theorem y4 {P : Int → Prop} (h0 : P 0) (h1 : P 1) (h2 : P 2) (h3 : P 3) : ∀ s, 0 ≤ s → s < 4 → P s := fun s a b => by
  have : s = 0 ∨ s = 1 ∨ s = 2 ∨ s = 3 := by omega
  rcases this with e | e | e | e <;> (subst e; assumption)
theorem fx00 (h : Nn c00) : Fx0 c00 := by
  refine ⟨⟨h, by decide, by decide, by decide, by decide⟩, ⟨by decide, by decide, by decide, by decide, by decide, by decide, by decide, by decide, by decide, by decide⟩, ⟨by decide, by decide, by decide, by decide⟩, y4 (by decide) (by decide) (by decide) (by decide)⟩
theorem sm00 : Sm c00 v00 := by
  refine ⟨⟨⟨by decide, by decide, by decide, by decide, by decide, by decide⟩, ⟨by decide, ⟨by decide, by decide⟩, by decide⟩, by decide, by decide⟩, ⟨by decide, fun r a b => ?_⟩, ⟨by decide, fun r a b => ?_⟩, ⟨by decide, fun r a b => ?_⟩, ⟨by decide, ?_⟩, ?_, ⟨by decide, fun r a b => ?_⟩, ?_, ⟨by decide, fun r a b => ?_⟩, ⟨fun w => ?_, fun w hw => ?_, ?_⟩, ⟨by decide, by decide⟩⟩
  · rw [v00_0 (by decide)] at b; omega
  · rw [v00_0 (by decide)] at b; omega
  · rw [v00_0 (by decide)] at b; omega
  · exact y4 ⟨by decide, by decide, by decide⟩ ⟨by decide, by decide, by decide⟩ ⟨by decide, by decide, by decide⟩ ⟨by decide, by decide, by decide⟩
  · show c00.2.2.1 4 = (rng (v00 7 0)).map (v00 39)
    rfl
  · rw [v00_0 (by decide)] at b; omega
  · show c00.2.2.1 6 = due v00 (v00 6 0).toNat
    rfl
  · rw [v00_0 (by decide)] at b; omega
  · have e : c00.2.2.1 8 = [] := by decide
    rw [e]
    constructor
    · exact fun q => by cases q
    · rintro ⟨_, q, _⟩
      rw [v00_0 (by decide)] at q
      omega
  · have e : c00.2.2.1 8 = [] := by decide
    rw [e] at hw
    cases hw
  · have e : c00.2.2.1 8 = [] := by decide
    rw [e]
    exact List.Pairwise.nil
theorem inv00 : INV c00 v00 := by
  refine ⟨sm00, ⟨fun b a1 a2 => ?_, fun w a1 a2 => ?_, ⟨fun w _ => v00_0 (by decide), fun p _ => v00_0 (by decide)⟩, fun o a1 a2 => ?_, fun e a1 a2 => ?_, fun b a1 a2 => ?_⟩, ⟨by decide, by decide, by decide, by decide, fun b _ => v00_0 (by decide), fun o _ => ⟨v00_0 (by decide), v00_0 (by decide)⟩⟩, ⟨fun b a1 a2 => ?_, fun r a1 a2 => ?_, fun k a1 a2 => ?_, fun w a1 => ?_⟩⟩
  · rw [v00_0 (by decide)] at a2; omega
  · rw [v00_0 (by decide)] at a2; omega
  · rw [v00_0 (by decide)] at a2; omega
  · rw [v00_0 (by decide)] at a2; omega
  · rw [v00_0 (by decide)] at a2; omega
  · rw [v00_0 (by decide)] at a2; omega
  · rw [v00_0 (by decide)] at a2; omega
  · rw [v00_0 (by decide)] at a2; omega
  · rw [v00_0 (by decide)] at a1; omega
