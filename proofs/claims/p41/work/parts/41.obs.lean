/-! the calls that only ask (written by wip/whole/mk41.py) -/
def xIOB : String := "java/lang/IndexOutOfBoundsException"
def xIAE : String := "java/lang/IllegalArgumentException"
def xISE : String := "java/lang/IllegalStateException"
def xNSE : String := "java/util/NoSuchElementException"
def xUOE : String := "java/lang/UnsupportedOperationException"
theorem isOne1 (v : Vw) : f_isOne 1 v = (1, upv v 0 0 0) := rfl
theorem isOne0 (v : Vw) : f_isOne 0 v = (0, upv v 0 0 1) := rfl
theorem ne10 : ¬ (1 : Int) = 0 := by decide
theorem cdc_r (s : Int) : 99 ≤ cdc s ∧ cdc s ≤ 117 := by
  unfold cdc
  repeat' split
  all_goals omega
theorem phc_r (s : Int) : 102 ≤ phc s ∧ phc s ≤ 120 := by
  unfold phc
  repeat' split
  all_goals omega
theorem kdc_r (s : Int) : 102 ≤ kdc s ∧ kdc s ≤ 116 := by
  unfold kdc
  repeat' split
  all_goals omega
theorem cdc_0 {s : Int} : cdc s = 99 ↔ s = 0 := by
  unfold cdc
  repeat' split
  all_goals omega
theorem cdc_3 {s : Int} (h : 0 ≤ s ∧ s ≤ 3) : cdc s = 103 ↔ s = 3 := by
  unfold cdc
  repeat' split
  all_goals omega
theorem phc_0 {s : Int} : phc s = 102 ↔ s = 0 := by
  unfold phc
  repeat' split
  all_goals omega
theorem phc_1 {s : Int} : phc s = 119 ↔ s = 1 := by
  unfold phc
  repeat' split
  all_goals omega
theorem phc_2 {s : Int} : phc s = 109 ↔ s = 2 := by
  unfold phc
  repeat' split
  all_goals omega
theorem phc_3 {s : Int} : phc s = 114 ↔ s = 3 := by
  unfold phc
  repeat' split
  all_goals omega
theorem phc_4 {s : Int} (h : 0 ≤ s ∧ s ≤ 4) : phc s = 120 ↔ s = 4 := by
  unfold phc
  repeat' split
  all_goals omega
theorem kdc_0 {s : Int} : kdc s = 102 ↔ s = 0 := by
  unfold kdc
  repeat' split
  all_goals omega
theorem kdc_1 {s : Int} : kdc s = 116 ↔ ¬ s = 0 := by
  unfold kdc
  repeat' split
  all_goals omega
theorem Sm.l1 {c : Cs} {v : Vw} {T E : Int} (h : Sm c v) (hI : IM v T E) : ((c.2.2.1 1).length : Int) = v 1 0 := by
  rw [h.cr.1]
  exact rng_len (hI.2 1 0).1
theorem Sm.e1 {c : Cs} {v : Vw} (h : Sm c v) {i : Int} (h0 : 0 ≤ i) (h1 : i < v 1 0) : lget (c.2.2.1 1) i = i := by
  rw [h.cr.1]
  exact lget_rng h0 h1
theorem Sm.l2 {c : Cs} {v : Vw} {T E : Int} (h : Sm c v) (hI : IM v T E) : ((c.2.2.1 2).length : Int) = v 2 0 := by
  rw [h.cv.1]
  exact rng_len (hI.2 2 0).1
theorem Sm.e2 {c : Cs} {v : Vw} (h : Sm c v) {i : Int} (h0 : 0 ≤ i) (h1 : i < v 2 0) : lget (c.2.2.1 2) i = i := by
  rw [h.cv.1]
  exact lget_rng h0 h1
theorem Sm.l3 {c : Cs} {v : Vw} {T E : Int} (h : Sm c v) (hI : IM v T E) : ((c.2.2.1 3).length : Int) = v 5 0 := by
  rw [h.cb.1]
  exact rng_len (hI.2 5 0).1
theorem Sm.e3 {c : Cs} {v : Vw} (h : Sm c v) {i : Int} (h0 : 0 ≤ i) (h1 : i < v 5 0) : lget (c.2.2.1 3) i = i := by
  rw [h.cb.1]
  exact lget_rng h0 h1
theorem Sm.l5 {c : Cs} {v : Vw} {T E : Int} (h : Sm c v) (hI : IM v T E) : ((c.2.2.1 5).length : Int) = v 6 0 := by
  rw [h.co.1]
  exact rng_len (hI.2 6 0).1
theorem Sm.e5 {c : Cs} {v : Vw} (h : Sm c v) {i : Int} (h0 : 0 ≤ i) (h1 : i < v 6 0) : lget (c.2.2.1 5) i = i := by
  rw [h.co.1]
  exact lget_rng h0 h1
theorem Sm.l7 {c : Cs} {v : Vw} {T E : Int} (h : Sm c v) (hI : IM v T E) : ((c.2.2.1 7).length : Int) = v 9 0 := by
  rw [h.ce.1]
  exact rng_len (hI.2 9 0).1
theorem Sm.e7 {c : Cs} {v : Vw} (h : Sm c v) {i : Int} (h0 : 0 ≤ i) (h1 : i < v 9 0) : lget (c.2.2.1 7) i = i := by
  rw [h.ce.1]
  exact lget_rng h0 h1
theorem Sm.l4 {c : Cs} {v : Vw} {T E : Int} (h : Sm c v) (hI : IM v T E) : ((c.2.2.1 4).length : Int) = v 7 0 := by
  have h1 : c.2.2.1 4 = (rng (v 7 0)).map (v 39) := h.cq
  rw [h1]
  exact map_len (hI.2 7 0).1
theorem Sm.e4 {c : Cs} {v : Vw} (h : Sm c v) {i : Int} (h0 : 0 ≤ i) (h1 : i < v 7 0) : lget (c.2.2.1 4) i = v 39 i := by
  have h2 : c.2.2.1 4 = (rng (v 7 0)).map (v 39) := h.cq
  rw [h2]
  exact lget_map h0 h1
theorem fc_state {c : Cs} {v : Vw} {T E a : Int} (hN : INV c v) (hI : IM v T E) (ha : R32 a) : ok_X10_state a c ∧ Ans (fun _ => xIOB) (g_X10_state a c) (f_state a v) ∧ INV (g_X10_state a c).2 (f_state a v).2 := by
  have hl := hN.1.l2 hI
  unfold ok_X10_state ok_X10_vesselAt g_X10_state f_state
  by_cases h : 0 ≤ a ∧ a < v 2 0
  · have e : f_isVessel a v = 1 := (c_isVessel a v).elim (·.1) (fun q => absurd h q.2)
    have el := hN.1.e2 h.1 h.2
    obtain ⟨q0, q1, q2, q3, q4, q5⟩ := hN.1.cv.2 a h.1 h.2
    have z : v 15 a = 0 ∨ v 15 a = 1 ∨ v 15 a = 2 ∨ v 15 a = 3 := by have u3 : 0 ≤ v 15 a ∧ v 15 a ≤ 3 := hI.2 15 a; omega
    simp only [hl, el, e, isOne1, if_pos h, if_neg ne10, q2]
    rcases z with z | z | z | z
    · rw [z, show cdc 0 = 99 from rfl]
      simp only [if_true]
      refine ⟨?_, ?_, ?_⟩
      · repeat' first | exact trivial | refine ⟨?_, ?_⟩ | split | omega
      · first | exact Or.inl ⟨rfl, rfl⟩ | exact Or.inr ⟨Int.le_refl 1, rfl⟩ | exact Or.inr ⟨by show (1 : Int) ≤ 2; omega, rfl⟩
      · first | exact hN.v0 | exact hN.v0.v0 | exact hN.exc.v0 | exact hN.exc.v0.v0
    · rw [z, show cdc 1 = 117 from rfl]
      simp only [if_neg (show ¬ (1 : Int) = 0 by decide), if_true]
      refine ⟨?_, ?_, ?_⟩
      · repeat' first | exact trivial | refine ⟨?_, ?_⟩ | split | omega
      · first | exact Or.inl ⟨rfl, rfl⟩ | exact Or.inr ⟨Int.le_refl 1, rfl⟩ | exact Or.inr ⟨by show (1 : Int) ≤ 2; omega, rfl⟩
      · first | exact hN.v0 | exact hN.v0.v0 | exact hN.exc.v0 | exact hN.exc.v0.v0
    · rw [z, show cdc 2 = 100 from rfl]
      simp only [if_neg (show ¬ (2 : Int) = 0 by decide), if_neg (show ¬ (2 : Int) = 1 by decide), if_true]
      refine ⟨?_, ?_, ?_⟩
      · repeat' first | exact trivial | refine ⟨?_, ?_⟩ | split | omega
      · first | exact Or.inl ⟨rfl, rfl⟩ | exact Or.inr ⟨Int.le_refl 1, rfl⟩ | exact Or.inr ⟨by show (1 : Int) ≤ 2; omega, rfl⟩
      · first | exact hN.v0 | exact hN.v0.v0 | exact hN.exc.v0 | exact hN.exc.v0.v0
    · rw [z, show cdc 3 = 103 from rfl]
      simp only [if_neg (show ¬ (3 : Int) = 0 by decide), if_neg (show ¬ (3 : Int) = 1 by decide), if_neg (show ¬ (3 : Int) = 2 by decide)]
      refine ⟨?_, ?_, ?_⟩
      · repeat' first | exact trivial | refine ⟨?_, ?_⟩ | split | omega
      · first | exact Or.inl ⟨rfl, rfl⟩ | exact Or.inr ⟨Int.le_refl 1, rfl⟩ | exact Or.inr ⟨by show (1 : Int) ≤ 2; omega, rfl⟩
      · first | exact hN.v0 | exact hN.v0.v0 | exact hN.exc.v0 | exact hN.exc.v0.v0
  · have e : f_isVessel a v = 0 := (c_isVessel a v).elim (fun q => absurd q.2 h) (·.1)
    simp only [hl, e, isOne0, if_neg h, if_true]
    refine ⟨?_, Or.inr ⟨Int.le_refl 1, rfl⟩, hN.v0⟩
    repeat' first | exact trivial | refine ⟨?_, ?_⟩ | split | omega
theorem fc_brewIn {c : Cs} {v : Vw} {T E a : Int} (hN : INV c v) (hI : IM v T E) (ha : R32 a) : ok_X10_brewIn a c ∧ Ans (fun k => if k = 1 then xIOB else xNSE) (g_X10_brewIn a c) (f_brewIn a v) ∧ INV (g_X10_brewIn a c).2 (f_brewIn a v).2 := by
  have hl := hN.1.l2 hI
  unfold ok_X10_brewIn ok_X10_vesselAt g_X10_brewIn f_brewIn
  by_cases h : 0 ≤ a ∧ a < v 2 0
  · have e : f_isVessel a v = 1 := (c_isVessel a v).elim (·.1) (fun q => absurd h q.2)
    have el := hN.1.e2 h.1 h.2
    obtain ⟨q0, q1, q2, q3, q4, q5⟩ := hN.1.cv.2 a h.1 h.2
    have u := hN.2.1.2.1 a h.1 h.2
    simp only [hl, el, e, isOne1, if_pos h, if_neg ne10, q5]
    by_cases z : v 15 a = 1
    · have u2 := u z
      have u3 := (hN.1.cb.2 (v 16 a) u2.1 u2.2).1
      simp only [if_pos z, u3, if_neg (show ¬ v 16 a = -1 by omega)]
      refine ⟨?_, ?_, ?_⟩
      · repeat' first | exact trivial | refine ⟨?_, ?_⟩ | split | omega
      · first | exact Or.inl ⟨rfl, rfl⟩ | exact Or.inr ⟨Int.le_refl 1, rfl⟩ | exact Or.inr ⟨by show (1 : Int) ≤ 2; omega, rfl⟩
      · first | exact hN.v0 | exact hN.v0.v0 | exact hN.exc.v0 | exact hN.exc.v0.v0
    · simp only [if_neg z, if_true]
      skip
      refine ⟨?_, ?_, ?_⟩
      · repeat' first | exact trivial | refine ⟨?_, ?_⟩ | split | omega
      · first | exact Or.inl ⟨rfl, rfl⟩ | exact Or.inr ⟨Int.le_refl 1, rfl⟩ | exact Or.inr ⟨by show (1 : Int) ≤ 2; omega, rfl⟩
      · first | exact hN.v0 | exact hN.v0.v0 | exact hN.exc.v0 | exact hN.exc.v0.v0
  · have e : f_isVessel a v = 0 := (c_isVessel a v).elim (fun q => absurd q.2 h) (·.1)
    simp only [hl, e, isOne0, if_neg h, if_true]
    refine ⟨?_, Or.inr ⟨Int.le_refl 1, rfl⟩, hN.v0⟩
    repeat' first | exact trivial | refine ⟨?_, ?_⟩ | split | omega
theorem fc_cleanDay {c : Cs} {v : Vw} {T E a : Int} (hN : INV c v) (hI : IM v T E) (ha : R32 a) : ok_X10_cleanDay a c ∧ Ans (fun k => if k = 1 then xIOB else xNSE) (g_X10_cleanDay a c) (f_cleanDay a v) ∧ INV (g_X10_cleanDay a c).2 (f_cleanDay a v).2 := by
  have hl := hN.1.l2 hI
  unfold ok_X10_cleanDay ok_X10_vesselAt g_X10_cleanDay f_cleanDay
  by_cases h : 0 ≤ a ∧ a < v 2 0
  · have e : f_isVessel a v = 1 := (c_isVessel a v).elim (·.1) (fun q => absurd h q.2)
    have el := hN.1.e2 h.1 h.2
    obtain ⟨q0, q1, q2, q3, q4, q5⟩ := hN.1.cv.2 a h.1 h.2
    have r2 := cdc_r (v 15 a)
    have u3 : 0 ≤ v 15 a ∧ v 15 a ≤ 3 := hI.2 15 a
    simp only [hl, el, e, isOne1, if_pos h, if_neg ne10, q2, hN.1.c0.2.2.2, cdc_3 u3]
    by_cases z : v 15 a = 3
    · simp only [if_pos z, q3 z]
      skip
      refine ⟨?_, ?_, ?_⟩
      · repeat' first | exact trivial | refine ⟨?_, ?_⟩ | split | omega
      · first | exact Or.inl ⟨rfl, rfl⟩ | exact Or.inr ⟨Int.le_refl 1, rfl⟩ | exact Or.inr ⟨by show (1 : Int) ≤ 2; omega, rfl⟩
      · first | exact hN.v0 | exact hN.v0.v0 | exact hN.exc.v0 | exact hN.exc.v0.v0
    · simp only [if_neg z]
      skip
      refine ⟨?_, ?_, ?_⟩
      · repeat' first | exact trivial | refine ⟨?_, ?_⟩ | split | omega
      · first | exact Or.inl ⟨rfl, rfl⟩ | exact Or.inr ⟨Int.le_refl 1, rfl⟩ | exact Or.inr ⟨by show (1 : Int) ≤ 2; omega, rfl⟩
      · first | exact hN.v0 | exact hN.v0.v0 | exact hN.exc.v0 | exact hN.exc.v0.v0
  · have e : f_isVessel a v = 0 := (c_isVessel a v).elim (fun q => absurd q.2 h) (·.1)
    simp only [hl, e, isOne0, if_neg h, if_true]
    refine ⟨?_, Or.inr ⟨Int.le_refl 1, rfl⟩, hN.v0⟩
    repeat' first | exact trivial | refine ⟨?_, ?_⟩ | split | omega
theorem fc_recipeOf {c : Cs} {v : Vw} {T E a : Int} (hN : INV c v) (hI : IM v T E) (ha : R32 a) : ok_X10_recipeOf a c ∧ Ans (fun _ => xIOB) (g_X10_recipeOf a c) (f_recipeOf a v) ∧ INV (g_X10_recipeOf a c).2 (f_recipeOf a v).2 := by
  have hl := hN.1.l3 hI
  unfold ok_X10_recipeOf ok_X10_brewAt g_X10_recipeOf f_recipeOf
  by_cases h : 0 ≤ a ∧ a < v 5 0
  · have e : f_isBrew a v = 1 := (c_isBrew a v).elim (·.1) (fun q => absurd h q.2)
    have el := hN.1.e3 h.1 h.2
    obtain ⟨q0, q1, q2, q3, q4, q5, q6⟩ := hN.1.cb.2 a h.1 h.2
    have u := (hN.2.1.1 a h.1 h.2).1
    have u2 := (hN.1.cr.2 (v 26 a) u.1 u.2).1
    simp only [hl, el, e, isOne1, if_pos h, if_neg ne10, q1, u2]
    refine ⟨?_, ?_, ?_⟩
    · repeat' first | exact trivial | refine ⟨?_, ?_⟩ | split | omega
    · repeat' split
      all_goals first | exact Or.inl ⟨rfl, rfl⟩ | exact Or.inr ⟨Int.le_refl 1, rfl⟩ | exact Or.inr ⟨by show (1 : Int) ≤ 2; omega, rfl⟩ | omega
    · repeat' split
      all_goals first | exact hN.v0 | exact hN.v0.v0 | exact hN.exc.v0 | exact hN.exc.v0.v0 | omega
  · have e : f_isBrew a v = 0 := (c_isBrew a v).elim (fun q => absurd q.2 h) (·.1)
    simp only [hl, e, isOne0, if_neg h, if_true]
    refine ⟨?_, Or.inr ⟨Int.le_refl 1, rfl⟩, hN.v0⟩
    repeat' first | exact trivial | refine ⟨?_, ?_⟩ | split | omega
theorem fc_generation {c : Cs} {v : Vw} {T E a : Int} (hN : INV c v) (hI : IM v T E) (ha : R32 a) : ok_X10_generation a c ∧ Ans (fun _ => xIOB) (g_X10_generation a c) (f_generation a v) ∧ INV (g_X10_generation a c).2 (f_generation a v).2 := by
  have hl := hN.1.l3 hI
  unfold ok_X10_generation ok_X10_brewAt g_X10_generation f_generation
  by_cases h : 0 ≤ a ∧ a < v 5 0
  · have e : f_isBrew a v = 1 := (c_isBrew a v).elim (·.1) (fun q => absurd h q.2)
    have el := hN.1.e3 h.1 h.2
    obtain ⟨q0, q1, q2, q3, q4, q5, q6⟩ := hN.1.cb.2 a h.1 h.2
    simp only [hl, el, e, isOne1, if_pos h, if_neg ne10, q2]
    refine ⟨?_, ?_, ?_⟩
    · repeat' first | exact trivial | refine ⟨?_, ?_⟩ | split | omega
    · repeat' split
      all_goals first | exact Or.inl ⟨rfl, rfl⟩ | exact Or.inr ⟨Int.le_refl 1, rfl⟩ | exact Or.inr ⟨by show (1 : Int) ≤ 2; omega, rfl⟩ | omega
    · repeat' split
      all_goals first | exact hN.v0 | exact hN.v0.v0 | exact hN.exc.v0 | exact hN.exc.v0.v0 | omega
  · have e : f_isBrew a v = 0 := (c_isBrew a v).elim (fun q => absurd q.2 h) (·.1)
    simp only [hl, e, isOne0, if_neg h, if_true]
    refine ⟨?_, Or.inr ⟨Int.le_refl 1, rfl⟩, hN.v0⟩
    repeat' first | exact trivial | refine ⟨?_, ?_⟩ | split | omega
theorem fc_stage {c : Cs} {v : Vw} {T E a : Int} (hN : INV c v) (hI : IM v T E) (ha : R32 a) : ok_X10_stage a c ∧ Ans (fun _ => xIOB) (g_X10_stage a c) (f_stage a v) ∧ INV (g_X10_stage a c).2 (f_stage a v).2 := by
  have hl := hN.1.l3 hI
  unfold ok_X10_stage ok_X10_brewAt g_X10_stage f_stage
  by_cases h : 0 ≤ a ∧ a < v 5 0
  · have e : f_isBrew a v = 1 := (c_isBrew a v).elim (·.1) (fun q => absurd h q.2)
    have el := hN.1.e3 h.1 h.2
    obtain ⟨q0, q1, q2, q3, q4, q5, q6⟩ := hN.1.cb.2 a h.1 h.2
    have z : v 28 a = 0 ∨ v 28 a = 1 ∨ v 28 a = 2 ∨ v 28 a = 3 ∨ v 28 a = 4 := by have u3 : 0 ≤ v 28 a ∧ v 28 a ≤ 4 := hI.2 28 a; omega
    simp only [hl, el, e, isOne1, if_pos h, if_neg ne10, q3]
    rcases z with z | z | z | z | z
    · rw [z, show phc 0 = 102 from rfl]
      simp only [if_true]
      refine ⟨?_, ?_, ?_⟩
      · repeat' first | exact trivial | refine ⟨?_, ?_⟩ | split | omega
      · first | exact Or.inl ⟨rfl, rfl⟩ | exact Or.inr ⟨Int.le_refl 1, rfl⟩ | exact Or.inr ⟨by show (1 : Int) ≤ 2; omega, rfl⟩
      · first | exact hN.v0 | exact hN.v0.v0 | exact hN.exc.v0 | exact hN.exc.v0.v0
    · rw [z, show phc 1 = 119 from rfl]
      simp only [if_neg (show ¬ (1 : Int) = 0 by decide), if_true]
      refine ⟨?_, ?_, ?_⟩
      · repeat' first | exact trivial | refine ⟨?_, ?_⟩ | split | omega
      · first | exact Or.inl ⟨rfl, rfl⟩ | exact Or.inr ⟨Int.le_refl 1, rfl⟩ | exact Or.inr ⟨by show (1 : Int) ≤ 2; omega, rfl⟩
      · first | exact hN.v0 | exact hN.v0.v0 | exact hN.exc.v0 | exact hN.exc.v0.v0
    · rw [z, show phc 2 = 109 from rfl]
      simp only [if_neg (show ¬ (2 : Int) = 0 by decide), if_neg (show ¬ (2 : Int) = 1 by decide), if_true]
      refine ⟨?_, ?_, ?_⟩
      · repeat' first | exact trivial | refine ⟨?_, ?_⟩ | split | omega
      · first | exact Or.inl ⟨rfl, rfl⟩ | exact Or.inr ⟨Int.le_refl 1, rfl⟩ | exact Or.inr ⟨by show (1 : Int) ≤ 2; omega, rfl⟩
      · first | exact hN.v0 | exact hN.v0.v0 | exact hN.exc.v0 | exact hN.exc.v0.v0
    · rw [z, show phc 3 = 114 from rfl]
      simp only [if_neg (show ¬ (3 : Int) = 0 by decide), if_neg (show ¬ (3 : Int) = 1 by decide), if_neg (show ¬ (3 : Int) = 2 by decide), if_true]
      refine ⟨?_, ?_, ?_⟩
      · repeat' first | exact trivial | refine ⟨?_, ?_⟩ | split | omega
      · first | exact Or.inl ⟨rfl, rfl⟩ | exact Or.inr ⟨Int.le_refl 1, rfl⟩ | exact Or.inr ⟨by show (1 : Int) ≤ 2; omega, rfl⟩
      · first | exact hN.v0 | exact hN.v0.v0 | exact hN.exc.v0 | exact hN.exc.v0.v0
    · rw [z, show phc 4 = 120 from rfl]
      simp only [if_neg (show ¬ (4 : Int) = 0 by decide), if_neg (show ¬ (4 : Int) = 1 by decide), if_neg (show ¬ (4 : Int) = 2 by decide), if_neg (show ¬ (4 : Int) = 3 by decide)]
      refine ⟨?_, ?_, ?_⟩
      · repeat' first | exact trivial | refine ⟨?_, ?_⟩ | split | omega
      · first | exact Or.inl ⟨rfl, rfl⟩ | exact Or.inr ⟨Int.le_refl 1, rfl⟩ | exact Or.inr ⟨by show (1 : Int) ≤ 2; omega, rfl⟩
      · first | exact hN.v0 | exact hN.v0.v0 | exact hN.exc.v0 | exact hN.exc.v0.v0
  · have e : f_isBrew a v = 0 := (c_isBrew a v).elim (fun q => absurd q.2 h) (·.1)
    simp only [hl, e, isOne0, if_neg h, if_true]
    refine ⟨?_, Or.inr ⟨Int.le_refl 1, rfl⟩, hN.v0⟩
    repeat' first | exact trivial | refine ⟨?_, ?_⟩ | split | omega
theorem fc_vesselOf {c : Cs} {v : Vw} {T E a : Int} (hN : INV c v) (hI : IM v T E) (ha : R32 a) : ok_X10_vesselOf a c ∧ Ans (fun k => if k = 1 then xIOB else xNSE) (g_X10_vesselOf a c) (f_vesselOf a v) ∧ INV (g_X10_vesselOf a c).2 (f_vesselOf a v).2 := by
  have hl := hN.1.l3 hI
  unfold ok_X10_vesselOf ok_X10_brewAt g_X10_vesselOf f_vesselOf
  by_cases h : 0 ≤ a ∧ a < v 5 0
  · have e : f_isBrew a v = 1 := (c_isBrew a v).elim (·.1) (fun q => absurd h q.2)
    have el := hN.1.e3 h.1 h.2
    obtain ⟨q0, q1, q2, q3, q4, q5, q6⟩ := hN.1.cb.2 a h.1 h.2
    have u := (hN.2.1.1 a h.1 h.2).2
    simp only [hl, el, e, isOne1, if_pos h, if_neg ne10, q6]
    by_cases z : v 28 a = 4
    · simp only [if_pos z, if_true]
      skip
      refine ⟨?_, ?_, ?_⟩
      · repeat' first | exact trivial | refine ⟨?_, ?_⟩ | split | omega
      · first | exact Or.inl ⟨rfl, rfl⟩ | exact Or.inr ⟨Int.le_refl 1, rfl⟩ | exact Or.inr ⟨by show (1 : Int) ≤ 2; omega, rfl⟩
      · first | exact hN.v0 | exact hN.v0.v0 | exact hN.exc.v0 | exact hN.exc.v0.v0
    · have u2 := (u z).1
      have u3 := (hN.1.cv.2 (v 29 a) u2.1 u2.2).1
      simp only [if_neg z, if_neg (show ¬ v 29 a = -1 by omega), u3]
      refine ⟨?_, ?_, ?_⟩
      · repeat' first | exact trivial | refine ⟨?_, ?_⟩ | split | omega
      · first | exact Or.inl ⟨rfl, rfl⟩ | exact Or.inr ⟨Int.le_refl 1, rfl⟩ | exact Or.inr ⟨by show (1 : Int) ≤ 2; omega, rfl⟩
      · first | exact hN.v0 | exact hN.v0.v0 | exact hN.exc.v0 | exact hN.exc.v0.v0
  · have e : f_isBrew a v = 0 := (c_isBrew a v).elim (fun q => absurd q.2 h) (·.1)
    simp only [hl, e, isOne0, if_neg h, if_true]
    refine ⟨?_, Or.inr ⟨Int.le_refl 1, rfl⟩, hN.v0⟩
    repeat' first | exact trivial | refine ⟨?_, ?_⟩ | split | omega
theorem fc_daysToGo {c : Cs} {v : Vw} {T E a : Int} (hN : INV c v) (hI : IM v T E) (ha : R32 a) : ok_X10_daysToGo a c ∧ Ans (fun k => if k = 1 then xIOB else xNSE) (g_X10_daysToGo a c) (f_daysToGo a v) ∧ INV (g_X10_daysToGo a c).2 (f_daysToGo a v).2 := by
  have hl := hN.1.l3 hI
  unfold ok_X10_daysToGo ok_X10_brewAt g_X10_daysToGo f_daysToGo
  by_cases h : 0 ≤ a ∧ a < v 5 0
  · have e : f_isBrew a v = 1 := (c_isBrew a v).elim (·.1) (fun q => absurd h q.2)
    have el := hN.1.e3 h.1 h.2
    obtain ⟨q0, q1, q2, q3, q4, q5, q6⟩ := hN.1.cb.2 a h.1 h.2
    have r2 := phc_r (v 28 a)
    simp only [hl, el, e, isOne1, if_pos h, if_neg ne10, ok_X0_isAtWork, g_X0_isAtWork, q3, phc_0, phc_2]
    by_cases z : v 28 a = 0
    · simp only [if_pos z, q4 (Or.inl z), if_neg ne10]
      skip
      refine ⟨?_, ?_, ?_⟩
      · repeat' first | exact trivial | refine ⟨?_, ?_⟩ | split | omega
      · first | exact Or.inl ⟨rfl, rfl⟩ | exact Or.inr ⟨Int.le_refl 1, rfl⟩ | exact Or.inr ⟨by show (1 : Int) ≤ 2; omega, rfl⟩
      · first | exact hN.v0 | exact hN.v0.v0 | exact hN.exc.v0 | exact hN.exc.v0.v0
    · by_cases z2 : v 28 a = 2
      · simp only [if_neg z, if_pos z2, q4 (Or.inr z2), if_neg ne10]
        refine ⟨?_, Or.inl ⟨rfl, rfl⟩, hN.v0⟩
        repeat' first | exact trivial | refine ⟨?_, ?_⟩ | split | omega
      simp only [if_neg z, if_neg z2, if_true]
      refine ⟨?_, ?_, ?_⟩
      · repeat' first | exact trivial | refine ⟨?_, ?_⟩ | split | omega
      · first | exact Or.inl ⟨rfl, rfl⟩ | exact Or.inr ⟨Int.le_refl 1, rfl⟩ | exact Or.inr ⟨by show (1 : Int) ≤ 2; omega, rfl⟩
      · first | exact hN.v0 | exact hN.v0.v0 | exact hN.exc.v0 | exact hN.exc.v0.v0
  · have e : f_isBrew a v = 0 := (c_isBrew a v).elim (fun q => absurd q.2 h) (·.1)
    simp only [hl, e, isOne0, if_neg h, if_true]
    refine ⟨?_, Or.inr ⟨Int.le_refl 1, rfl⟩, hN.v0⟩
    repeat' first | exact trivial | refine ⟨?_, ?_⟩ | split | omega
theorem fc_status {c : Cs} {v : Vw} {T E a : Int} (hN : INV c v) (hI : IM v T E) (ha : R32 a) : ok_X10_status a c ∧ Ans (fun _ => xIOB) (g_X10_status a c) (f_status a v) ∧ INV (g_X10_status a c).2 (f_status a v).2 := by
  have hl := hN.1.l5 hI
  unfold ok_X10_status ok_X10_orderAt g_X10_status f_status
  by_cases h : 0 ≤ a ∧ a < v 6 0
  · have e : f_isOrder a v = 1 := (c_isOrder a v).elim (·.1) (fun q => absurd h q.2)
    have el := hN.1.e5 h.1 h.2
    obtain ⟨⟨q0, q1, q2, q3, q4⟩, q5, q6⟩ := hN.1.co.2 a h.1 h.2
    have u3 := (hN.2.1.2.2.2.1 a h.1 h.2).1.2
    simp only [hl, el, e, isOne1, if_pos h, if_neg ne10, q3]
    refine ⟨?_, ?_, ?_⟩
    · repeat' first | exact trivial | refine ⟨?_, ?_⟩ | split | omega
    · repeat' split
      all_goals first | exact Or.inl ⟨rfl, rfl⟩ | exact Or.inr ⟨Int.le_refl 1, rfl⟩ | exact Or.inr ⟨by show (1 : Int) ≤ 2; omega, rfl⟩ | omega
    · repeat' split
      all_goals first | exact hN.v0 | exact hN.v0.v0 | exact hN.exc.v0 | exact hN.exc.v0.v0 | omega
  · have e : f_isOrder a v = 0 := (c_isOrder a v).elim (fun q => absurd q.2 h) (·.1)
    simp only [hl, e, isOne0, if_neg h, if_true]
    refine ⟨?_, Or.inr ⟨Int.le_refl 1, rfl⟩, hN.v0⟩
    repeat' first | exact trivial | refine ⟨?_, ?_⟩ | split | omega
theorem fc_filledOn {c : Cs} {v : Vw} {T E a : Int} (hN : INV c v) (hI : IM v T E) (ha : R32 a) : ok_X10_filledOn a c ∧ Ans (fun k => if k = 1 then xIOB else xISE) (g_X10_filledOn a c) (f_filledOn a v) ∧ INV (g_X10_filledOn a c).2 (f_filledOn a v).2 := by
  have hl := hN.1.l5 hI
  unfold ok_X10_filledOn ok_X10_orderAt g_X10_filledOn f_filledOn
  by_cases h : 0 ≤ a ∧ a < v 6 0
  · have e : f_isOrder a v = 1 := (c_isOrder a v).elim (·.1) (fun q => absurd h q.2)
    have el := hN.1.e5 h.1 h.2
    obtain ⟨⟨q0, q1, q2, q3, q4⟩, q5, q6⟩ := hN.1.co.2 a h.1 h.2
    have u3 := (hN.2.1.2.2.2.1 a h.1 h.2).1.2
    simp only [hl, el, e, isOne1, if_pos h, if_neg ne10, q3]
    by_cases z : v 34 a = 102
    · simp only [if_pos z, q4 z]
      skip
      refine ⟨?_, ?_, ?_⟩
      · repeat' first | exact trivial | refine ⟨?_, ?_⟩ | split | omega
      · first | exact Or.inl ⟨rfl, rfl⟩ | exact Or.inr ⟨Int.le_refl 1, rfl⟩ | exact Or.inr ⟨by show (1 : Int) ≤ 2; omega, rfl⟩
      · first | exact hN.v0 | exact hN.v0.v0 | exact hN.exc.v0 | exact hN.exc.v0.v0
    · simp only [if_neg z]
      skip
      refine ⟨?_, ?_, ?_⟩
      · repeat' first | exact trivial | refine ⟨?_, ?_⟩ | split | omega
      · first | exact Or.inl ⟨rfl, rfl⟩ | exact Or.inr ⟨Int.le_refl 1, rfl⟩ | exact Or.inr ⟨by show (1 : Int) ≤ 2; omega, rfl⟩
      · first | exact hN.v0 | exact hN.v0.v0 | exact hN.exc.v0 | exact hN.exc.v0.v0
  · have e : f_isOrder a v = 0 := (c_isOrder a v).elim (fun q => absurd q.2 h) (·.1)
    simp only [hl, e, isOne0, if_neg h, if_true]
    refine ⟨?_, Or.inr ⟨Int.le_refl 1, rfl⟩, hN.v0⟩
    repeat' first | exact trivial | refine ⟨?_, ?_⟩ | split | omega
theorem fc_deliveredBrew {c : Cs} {v : Vw} {T E a : Int} (hN : INV c v) (hI : IM v T E) (ha : R32 a) : ok_X10_deliveredBrew a c ∧ Ans (fun _ => xIOB) (g_X10_deliveredBrew a c) (f_deliveredBrew a v) ∧ INV (g_X10_deliveredBrew a c).2 (f_deliveredBrew a v).2 := by
  have hl := hN.1.l7 hI
  unfold ok_X10_deliveredBrew ok_X10_deliveryAt g_X10_deliveredBrew f_deliveredBrew f_isDelivery
  by_cases h : 0 ≤ a ∧ a < v 9 0
  · have e : f_in a 0 (v 9 0 - 1) = 1 := (c_in a 0 (v 9 0 - 1)).elim (·.1) (fun q => absurd (by omega) q.2)
    have el := hN.1.e7 h.1 h.2
    obtain ⟨q0, q1, q2⟩ := hN.1.ce.2 a h.1 h.2
    have u := (hN.2.1.2.2.2.2.1 a h.1 h.2).1
    have u2 := (hN.1.cb.2 (v 44 a) u.1 u.2).1
    simp only [hl, el, e, isOne1, if_pos h, if_neg ne10, q0, u2]
    refine ⟨?_, ?_, ?_⟩
    · repeat' first | exact trivial | refine ⟨?_, ?_⟩ | split | omega
    · repeat' split
      all_goals first | exact Or.inl ⟨rfl, rfl⟩ | exact Or.inr ⟨Int.le_refl 1, rfl⟩ | exact Or.inr ⟨by show (1 : Int) ≤ 2; omega, rfl⟩ | omega
    · repeat' split
      all_goals first | exact hN.v0 | exact hN.v0.v0 | exact hN.exc.v0 | exact hN.exc.v0.v0 | omega
  · have e : f_in a 0 (v 9 0 - 1) = 0 := (c_in a 0 (v 9 0 - 1)).elim (fun q => absurd (by omega) h) (·.1)
    simp only [hl, e, isOne0, if_neg h, if_true]
    refine ⟨?_, Or.inr ⟨Int.le_refl 1, rfl⟩, hN.v0⟩
    repeat' first | exact trivial | refine ⟨?_, ?_⟩ | split | omega
theorem fc_deliveredOrder {c : Cs} {v : Vw} {T E a : Int} (hN : INV c v) (hI : IM v T E) (ha : R32 a) : ok_X10_deliveredOrder a c ∧ Ans (fun _ => xIOB) (g_X10_deliveredOrder a c) (f_deliveredOrder a v) ∧ INV (g_X10_deliveredOrder a c).2 (f_deliveredOrder a v).2 := by
  have hl := hN.1.l7 hI
  unfold ok_X10_deliveredOrder ok_X10_deliveryAt g_X10_deliveredOrder f_deliveredOrder f_isDelivery
  by_cases h : 0 ≤ a ∧ a < v 9 0
  · have e : f_in a 0 (v 9 0 - 1) = 1 := (c_in a 0 (v 9 0 - 1)).elim (·.1) (fun q => absurd (by omega) q.2)
    have el := hN.1.e7 h.1 h.2
    obtain ⟨q0, q1, q2⟩ := hN.1.ce.2 a h.1 h.2
    have u := (hN.2.1.2.2.2.2.1 a h.1 h.2).2
    have u2 := (hN.1.co.2 (v 45 a) u.1 u.2).1.1
    simp only [hl, el, e, isOne1, if_pos h, if_neg ne10, q1, u2]
    refine ⟨?_, ?_, ?_⟩
    · repeat' first | exact trivial | refine ⟨?_, ?_⟩ | split | omega
    · repeat' split
      all_goals first | exact Or.inl ⟨rfl, rfl⟩ | exact Or.inr ⟨Int.le_refl 1, rfl⟩ | exact Or.inr ⟨by show (1 : Int) ≤ 2; omega, rfl⟩ | omega
    · repeat' split
      all_goals first | exact hN.v0 | exact hN.v0.v0 | exact hN.exc.v0 | exact hN.exc.v0.v0 | omega
  · have e : f_in a 0 (v 9 0 - 1) = 0 := (c_in a 0 (v 9 0 - 1)).elim (fun q => absurd (by omega) h) (·.1)
    simp only [hl, e, isOne0, if_neg h, if_true]
    refine ⟨?_, Or.inr ⟨Int.le_refl 1, rfl⟩, hN.v0⟩
    repeat' first | exact trivial | refine ⟨?_, ?_⟩ | split | omega
theorem fc_deliveredUnits {c : Cs} {v : Vw} {T E a : Int} (hN : INV c v) (hI : IM v T E) (ha : R32 a) : ok_X10_deliveredUnits a c ∧ Ans (fun _ => xIOB) (g_X10_deliveredUnits a c) (f_deliveredUnits a v) ∧ INV (g_X10_deliveredUnits a c).2 (f_deliveredUnits a v).2 := by
  have hl := hN.1.l7 hI
  unfold ok_X10_deliveredUnits ok_X10_deliveryAt g_X10_deliveredUnits f_deliveredUnits f_isDelivery
  by_cases h : 0 ≤ a ∧ a < v 9 0
  · have e : f_in a 0 (v 9 0 - 1) = 1 := (c_in a 0 (v 9 0 - 1)).elim (·.1) (fun q => absurd (by omega) q.2)
    have el := hN.1.e7 h.1 h.2
    obtain ⟨q0, q1, q2⟩ := hN.1.ce.2 a h.1 h.2
    simp only [hl, el, e, isOne1, if_pos h, if_neg ne10, q2]
    refine ⟨?_, ?_, ?_⟩
    · repeat' first | exact trivial | refine ⟨?_, ?_⟩ | split | omega
    · repeat' split
      all_goals first | exact Or.inl ⟨rfl, rfl⟩ | exact Or.inr ⟨Int.le_refl 1, rfl⟩ | exact Or.inr ⟨by show (1 : Int) ≤ 2; omega, rfl⟩ | omega
    · repeat' split
      all_goals first | exact hN.v0 | exact hN.v0.v0 | exact hN.exc.v0 | exact hN.exc.v0.v0 | omega
  · have e : f_in a 0 (v 9 0 - 1) = 0 := (c_in a 0 (v 9 0 - 1)).elim (fun q => absurd (by omega) h) (·.1)
    simp only [hl, e, isOne0, if_neg h, if_true]
    refine ⟨?_, Or.inr ⟨Int.le_refl 1, rfl⟩, hN.v0⟩
    repeat' first | exact trivial | refine ⟨?_, ?_⟩ | split | omega
theorem fc_queued {c : Cs} {v : Vw} {T E : Int} (hN : INV c v) (hI : IM v T E) : g_X10_queued c = (f_queued v).1 ∧ INV c (f_queued v).2 := ⟨hN.1.l4 hI, hN.v0⟩
theorem fc_brews {c : Cs} {v : Vw} {T E : Int} (hN : INV c v) (hI : IM v T E) : g_X10_brews c = (f_brews v).1 ∧ INV c (f_brews v).2 := ⟨hN.1.l3 hI, hN.v0⟩
theorem fc_deliveries {c : Cs} {v : Vw} {T E : Int} (hN : INV c v) (hI : IM v T E) : g_X10_deliveries c = (f_deliveries v).1 ∧ INV c (f_deliveries v).2 := ⟨hN.1.l7 hI, hN.v0⟩
theorem fc_day {c : Cs} {v : Vw} (hN : INV c v) : g_X10_day c = (f_day v).1 ∧ INV c (f_day v).2 := ⟨hN.1.c0.2.2.2, hN.v0⟩
theorem fc_queuedAt {c : Cs} {v : Vw} {T E a : Int} (hN : INV c v) (hI : IM v T E) (ha : R32 a) : ok_X10_queuedAt a c ∧ Ans (fun _ => xNSE) (g_X10_queuedAt a c) (f_queuedAt a v) ∧ INV (g_X10_queuedAt a c).2 (f_queuedAt a v).2 := by
  have hl := hN.1.l4 hI
  unfold ok_X10_queuedAt ok_X10_queuedRecipe g_X10_queuedAt f_queuedAt
  by_cases h : 0 ≤ a ∧ a < v 7 0
  · have e : f_in a 0 (v 7 0 - 1) = 1 := (c_in a 0 (v 7 0 - 1)).elim (·.1) (fun q => absurd (by omega) q.2)
    have el := hN.1.e4 h.1 h.2
    have u := hN.2.2.2.2.2.1 a h.1 h.2
    have u2 := (hN.1.cr.2 (v 39 a) u.1 u.2).1
    simp only [hl, el, e, u2, if_pos h, if_neg ne10]
    refine ⟨?_, Or.inl ⟨rfl, rfl⟩, hN.v0⟩
    repeat' first | exact trivial | refine ⟨?_, ?_⟩ | split | omega
  · have e : f_in a 0 (v 7 0 - 1) = 0 := (c_in a 0 (v 7 0 - 1)).elim (fun q => absurd (by omega) h) (·.1)
    simp only [hl, e, if_neg h, if_true]
    refine ⟨?_, Or.inr ⟨Int.le_refl 1, rfl⟩, hN.v0⟩
    repeat' first | exact trivial | refine ⟨?_, ?_⟩ | split | omega
