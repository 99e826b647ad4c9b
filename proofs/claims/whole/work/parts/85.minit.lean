/-! the model's object as its constructor makes it -/
def mh (σ : Hp) (m0 : Nat) : Nat → Hp
  | 0 => σ.setI m0 3 (i32 1)
  | j + 1 => ((mh σ m0 j).al (mKd (12 + j)) (mLn (12 + j)) (mLn (12 + j))).setR m0 (12 + j) (some (mh σ m0 j).sz)
def v00 : Vw := fun k i => if k = 3 ∧ i = 0 then 1 else 0
def MI (σ τ : Hp) (m0 j : Nat) : Prop :=
  (τ.sz = m0 + 1 + j ∧ τ.kd m0 = 15 ∧ (∀ k, k < 12 → τ.iv m0 k = i32 (v00 k 0))) ∧
  (∀ k, 12 ≤ k → k < 12 + j → τ.rv m0 k = some (m0 + (k - 11)) ∧ τ.kd (m0 + (k - 11)) = mKd k ∧ τ.ln (m0 + (k - 11)) = mLn k ∧ ∀ i, τ.iv (m0 + (k - 11)) i = 0) ∧
  (∀ a, a < m0 → τ.kd a = σ.kd a ∧ τ.ln a = σ.ln a ∧ τ.iv a = σ.iv a ∧ τ.rv a = σ.rv a ∧ τ.lv a = σ.lv a ∧ τ.dv a = σ.dv a) ∧
  (∀ a, m0 + 1 + j ≤ a → τ.kd a = 0) ∧ τ.cl = σ.cl + j ∧ τ.sl ≤ σ.sl + 128 * j
theorem mLn_le (k : Nat) : mLn k ≤ 128 := by
  unfold mLn
  by_cases h : k < 47
  · have : ∀ q : Fin 47, [0, 0, 0, 0, 0, 0, 0, 0, 0, 0, 0, 0, 5, 5, 5, 8, 8, 8, 8, 8, 8, 4, 60, 60, 60, 60, 30, 30, 30, 30, 30, 30, 20, 20, 20, 20, 80, 80, 20, 6, 6, 6, 8, 8, 128, 128, 128].getD q.val 0 ≤ 128 := by decide
    exact this ⟨k, h⟩
  · rw [List.getD_eq_getElem?_getD, List.getElem?_eq_none (by simp; omega)]
    exact Nat.zero_le _
theorem mh_ok {σ : Hp} {m0 : Nat} (h1 : σ.sz = m0 + 1) (h2 : σ.kd m0 = 15) (h3 : ∀ k, σ.iv m0 k = 0) (h4 : ∀ a, m0 + 1 ≤ a → σ.kd a = 0) : ∀ j, MI σ (mh σ m0 j) m0 j := by
  intro j
  induction j with
  | zero =>
    refine ⟨⟨h1, h2, fun k hk => ?_⟩, fun k k1 k2 => by omega, fun a ha => ⟨rfl, rfl, ?_, rfl, rfl, rfl⟩, h4, rfl, Nat.le_refl _⟩
    · show (if m0 = m0 ∧ k = 3 then i32 1 else σ.iv m0 k) = i32 (if k = 3 ∧ (0 : Int) = 0 then 1 else 0)
      by_cases e : k = 3
      · rw [if_pos ⟨rfl, e⟩, if_pos ⟨e, rfl⟩]
      · rw [if_neg (fun q => e q.2), if_neg (fun q => e q.1), h3]
        rfl
    · funext k
      show (if a = m0 ∧ k = 3 then i32 1 else σ.iv a k) = σ.iv a k
      rw [if_neg (fun q => by omega)]
  | succ j ih =>
    obtain ⟨⟨a1, a2, a3⟩, b, f, z, d1, d2⟩ := ih
    have hl := mLn_le (12 + j)
    have ekd : ∀ a, (mh σ m0 (j + 1)).kd a = if a = m0 + 1 + j then mKd (12 + j) else (mh σ m0 j).kd a := fun a => by rw [← a1]; rfl
    have eln : ∀ a, (mh σ m0 (j + 1)).ln a = if a = m0 + 1 + j then mLn (12 + j) else (mh σ m0 j).ln a := fun a => by rw [← a1]; rfl
    have eiv : ∀ a, (mh σ m0 (j + 1)).iv a = if a = m0 + 1 + j then (fun _ => 0) else (mh σ m0 j).iv a := fun a => by rw [← a1]; rfl
    have erv : ∀ a k, (mh σ m0 (j + 1)).rv a k = if a = m0 ∧ k = 12 + j then some (m0 + 1 + j) else (if a = m0 + 1 + j then (fun _ => none) else (mh σ m0 j).rv a) k := fun a k => by rw [← a1]; rfl
    have elv : ∀ a, (mh σ m0 (j + 1)).lv a = if a = m0 + 1 + j then (fun _ => 0) else (mh σ m0 j).lv a := fun a => by rw [← a1]; rfl
    have edv : ∀ a, (mh σ m0 (j + 1)).dv a = if a = m0 + 1 + j then (fun _ => 0) else (mh σ m0 j).dv a := fun a => by rw [← a1]; rfl
    refine ⟨⟨?_, ?_, fun k hk => ?_⟩, fun k k1 k2 => ?_, fun a ha => ?_, fun a ha => ?_, ?_, ?_⟩
    · show (mh σ m0 j).sz + 1 = _
      omega
    · rw [ekd, if_neg (by omega)]
      exact a2
    · rw [eiv, if_neg (by omega)]
      exact a3 k hk
    · by_cases e : k = 12 + j
      · subst e
        have ea : m0 + (12 + j - 11) = m0 + 1 + j := by omega
        refine ⟨?_, ?_, ?_, fun i => ?_⟩
        · rw [erv, if_pos ⟨rfl, rfl⟩, ea]
        · rw [ekd, if_pos ea]
        · rw [eln, if_pos ea]
        · rw [eiv, if_pos ea]
      · obtain ⟨q1, q2, q3, q4⟩ := b k k1 (by omega)
        have ea : ¬ m0 + (k - 11) = m0 + 1 + j := by omega
        refine ⟨?_, ?_, ?_, fun i => ?_⟩
        · rw [erv, if_neg (fun q => e q.2), if_neg (by omega)]
          exact q1
        · rw [ekd, if_neg ea]
          exact q2
        · rw [eln, if_neg ea]
          exact q3
        · rw [eiv, if_neg ea]
          exact q4 i
    · obtain ⟨q1, q2, q3, q4, q5, q6⟩ := f a ha
      have na : ¬ a = m0 + 1 + j := by omega
      refine ⟨?_, ?_, ?_, ?_, ?_, ?_⟩
      · rw [ekd, if_neg na]; exact q1
      · rw [eln, if_neg na]; exact q2
      · rw [eiv, if_neg na]; exact q3
      · funext k
        rw [erv, if_neg (fun q => by omega), if_neg na]
        exact congrFun q4 k
      · rw [elv, if_neg na]; exact q5
      · rw [edv, if_neg na]; exact q6
    · rw [ekd, if_neg (by omega)]
      exact z a (by omega)
    · show (mh σ m0 j).cl + 1 = _
      omega
    · show (mh σ m0 j).sl + mLn (12 + j) ≤ _
      omega
theorem MI.gm {σ τ : Hp} {m0 : Nat} (h : MI σ τ m0 35) : GM τ m0 ∧ Hm τ m0 v00 = τ := by
  obtain ⟨⟨a1, a2, a3⟩, b, _⟩ := h
  refine ⟨⟨a2, fun k k1 k2 => ?_⟩, Hm_eq (fun a j => ?_)⟩
  · obtain ⟨q1, q2, q3, _⟩ := b k k1 (by omega)
    exact ⟨q1, q2, q3⟩
  · by_cases e : a = m0
    · subst e
      rw [if_pos rfl]
      by_cases e2 : j < 12
      · rw [if_pos e2, a3 j e2]
      · rw [if_neg e2]
    · rw [if_neg e]
      by_cases e2 : m0 < a ∧ a < m0 + 36
      · rw [if_pos e2]
        have q4 := (b (a - m0 + 11) (by omega) (by omega)).2.2.2 j
        rw [show m0 + (a - m0 + 11 - 11) = a by omega] at q4
        rw [q4]
        show (0 : Int32) = i32 (if a - m0 + 11 = 3 ∧ (j : Int) = 0 then 1 else 0)
        rw [if_neg (fun q => by omega)]
        rfl
      · rw [if_neg e2]
theorem v00_im : IM v00 40 0 := by
  refine ⟨⟨by decide, by decide, by decide, by decide⟩, fun k i => ?_⟩
  have hl : loV k 40 ≤ 0 := by
    unfold loV
    split <;> decide
  have hh : 0 ≤ hiV k 40 0 := by
    unfold hiV
    split <;> decide
  unfold v00
  by_cases e : k = 3 ∧ i = 0
  · rw [if_pos e, e.1]
    decide
  · rw [if_neg e]
    exact ⟨hl, hh⟩
