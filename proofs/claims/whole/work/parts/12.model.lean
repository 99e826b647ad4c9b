/-! the reference's object: its 36 cells lie side by side (the object at m0, its arrays behind it in the order of the fields); what they hold is a function v of field and index -/
def i32 (z : Int) : Int32 := Int32.ofInt z
abbrev R32 (z : Int) : Prop := -2147483648 ≤ z ∧ z < 2147483648
theorem i32_add (a b : Int) : i32 a + i32 b = i32 (a + b) := (Int32.ofInt_add a b).symm
theorem i32_sub (a b : Int) : i32 a - i32 b = i32 (a - b) := (Int32.ofInt_sub a b).symm
theorem i32_mul (a b : Int) : i32 a * i32 b = i32 (a * b) := (Int32.ofInt_mul a b).symm
theorem R32_0 : R32 0 := ⟨by decide, by decide⟩
theorem i32_toInt {a : Int} (h : R32 a) : (i32 a).toInt = a := Int32.toInt_ofInt_of_le h.1 h.2
theorem i32_lt {a b : Int} (ha : R32 a) (hb : R32 b) : i32 a < i32 b ↔ a < b := by rw [Int32.lt_iff_toInt_lt, i32_toInt ha, i32_toInt hb]
theorem i32_le {a b : Int} (ha : R32 a) (hb : R32 b) : i32 a ≤ i32 b ↔ a ≤ b := by rw [Int32.le_iff_toInt_le, i32_toInt ha, i32_toInt hb]
theorem i32_eq {a b : Int} (ha : R32 a) (hb : R32 b) : i32 a = i32 b ↔ a = b := by
  constructor
  · intro h
    have := congrArg Int32.toInt h
    rwa [i32_toInt ha, i32_toInt hb] at this
  · exact fun h => by rw [h]
theorem i32_cl {a : Int} (h0 : 0 ≤ a) (h : R32 a) : (i32 a).toNatClampNeg = a.toNat := by
  show (i32 a).toInt.toNat = a.toNat
  rw [i32_toInt h]
theorem i32_asI (x : Int32) : i32 x.toInt = x := Int32.ofInt_toInt x
theorem i32_vin {a : Int} {n : Nat} (h0 : 0 ≤ a) (h : a < n) (hn : n ≤ 60000) : vp_in (i32 a) n := by
  have hr : R32 a := ⟨by omega, by omega⟩
  rintro (h1 | h1)
  · have : i32 a < i32 0 := h1
    rw [i32_lt hr ⟨by omega, by omega⟩] at this
    omega
  · rw [i32_cl h0 hr] at h1
    omega
abbrev Vw : Type := Nat → Int → Int
def upv (v : Vw) (k : Nat) (i x : Int) : Vw := fun k' i' => if k' = k ∧ i' = i then x else v k' i'
theorem upv_eq (v : Vw) (k : Nat) (i x : Int) : upv v k i x k i = x := if_pos ⟨rfl, rfl⟩
theorem upv_ne (v : Vw) {k k' : Nat} {i i' : Int} (x : Int) (h : ¬ (k' = k ∧ i' = i)) : upv v k i x k' i' = v k' i' := if_neg h
/-- the model's arrays: kind, length -/
def mKd (k : Nat) : Nat := if k = 20 ∨ k = 25 ∨ k = 38 then 23 else 20
def mLn (k : Nat) : Nat := [0, 0, 0, 0, 0, 0, 0, 0, 0, 0, 0, 0, 5, 5, 5, 8, 8, 8, 8, 8, 8, 4, 60, 60, 60, 60, 30, 30, 30, 30, 30, 30, 20, 20, 20, 20, 80, 80, 20, 6, 6, 6, 8, 8, 128, 128, 128].getD k 0
def GM (σ : Hp) (m0 : Nat) : Prop := σ.kd m0 = 15 ∧ ∀ k, 12 ≤ k → k < 47 → σ.rv m0 k = some (m0 + (k - 11)) ∧ σ.kd (m0 + (k - 11)) = mKd k ∧ σ.ln (m0 + (k - 11)) = mLn k
def Hm (σ : Hp) (m0 : Nat) (v : Vw) : Hp := (σ.kd, σ.ln, fun a j => if a = m0 then (if j < 12 then i32 (v j 0) else σ.iv a j) else if m0 < a ∧ a < m0 + 36 then i32 (v (a - m0 + 11) (j : Int)) else σ.iv a j, σ.rv, σ.lv, σ.dv, σ.sz, σ.cl, σ.sl)
theorem Hm_iv0 (σ : Hp) (m0 : Nat) (v : Vw) {k : Nat} (hk : k < 12) : (Hm σ m0 v).iv m0 k = i32 (v k 0) := by
  show (if m0 = m0 then (if k < 12 then i32 (v k 0) else σ.iv m0 k) else _) = _
  rw [if_pos rfl, if_pos hk]
theorem Hm_ivA (σ : Hp) (m0 : Nat) (v : Vw) {k : Nat} (h1 : 12 ≤ k) (h2 : k < 47) (j : Nat) : (Hm σ m0 v).iv (m0 + (k - 11)) j = i32 (v k (j : Int)) := by
  show (if m0 + (k - 11) = m0 then _ else if m0 < m0 + (k - 11) ∧ m0 + (k - 11) < m0 + 36 then i32 (v (m0 + (k - 11) - m0 + 11) (j : Int)) else _) = _
  rw [if_neg (by omega), if_pos ⟨by omega, by omega⟩, show m0 + (k - 11) - m0 + 11 = k by omega]
theorem Hm_set0 (σ : Hp) (m0 : Nat) (v : Vw) {k : Nat} (hk : k < 12) (x : Int) : (Hm σ m0 v).setI m0 k (i32 x) = Hm σ m0 (upv v k 0 x) := by
  have e : up2 (Hm σ m0 v).iv m0 k (i32 x) = (Hm σ m0 (upv v k 0 x)).iv := by
    funext a j
    unfold up2 Hm Hp.iv upv
    dsimp only
    by_cases ha : a = m0
    · subst ha
      by_cases hj : j = k
      · subst hj
        simp [hk]
      · simp [hj]
    · simp only [ha, false_and, if_false]
      by_cases h3 : m0 < a ∧ a < m0 + 36
      · rw [if_pos h3, if_pos h3]
        rw [if_neg (by omega)]
      · rw [if_neg h3, if_neg h3]
  show (_, _, up2 (Hm σ m0 v).iv m0 k (i32 x), _) = _
  rw [e]
  rfl
theorem Hm_setA (σ : Hp) (m0 : Nat) (v : Vw) {k : Nat} (h1 : 12 ≤ k) (h2 : k < 47) (j : Nat) (x : Int) : (Hm σ m0 v).setI (m0 + (k - 11)) j (i32 x) = Hm σ m0 (upv v k (j : Int) x) := by
  have e : up2 (Hm σ m0 v).iv (m0 + (k - 11)) j (i32 x) = (Hm σ m0 (upv v k (j : Int) x)).iv := by
    funext a i
    unfold up2 Hm Hp.iv upv
    dsimp only
    by_cases ha : a = m0 + (k - 11)
    · subst ha
      by_cases hi : i = j
      · subst hi
        rw [if_pos ⟨rfl, rfl⟩, if_neg (show ¬ m0 + (k - 11) = m0 by omega), if_pos ⟨by omega, by omega⟩, show m0 + (k - 11) - m0 + 11 = k by omega, if_pos ⟨rfl, rfl⟩]
      · have h9 : ¬ (i : Int) = (j : Int) := by omega
        rw [if_neg (fun h => hi h.2), if_neg (show ¬ m0 + (k - 11) = m0 by omega), if_neg (show ¬ m0 + (k - 11) = m0 by omega), if_pos ⟨by omega, by omega⟩, if_pos ⟨by omega, by omega⟩, show m0 + (k - 11) - m0 + 11 = k by omega, if_neg (fun h => h9 h.2)]
    · simp only [ha, false_and, if_false]
      by_cases h0 : a = m0
      · rw [if_pos h0, if_pos h0]
        by_cases hi : i < 12
        · rw [if_pos hi, if_pos hi, if_neg (by omega)]
        · rw [if_neg hi, if_neg hi]
      · rw [if_neg h0, if_neg h0]
        by_cases h3 : m0 < a ∧ a < m0 + 36
        · rw [if_pos h3, if_pos h3]
          rw [if_neg (by omega)]
        · rw [if_neg h3, if_neg h3]
  show (_, _, up2 (Hm σ m0 v).iv (m0 + (k - 11)) j (i32 x), _) = _
  rw [e]
  rfl
section MRULES
variable {X : Cx} {σ : Hp} {m0 : Nat} {M : Mt} {d pc : Nat} {ls : List (Option Value)} {rest : List Value} {v v' : Vw} {o : Rs} {τ : Hp}
/-- a number field of the reference -/
theorem Em.gS {k ix : Nat} (hG : GM σ m0) (hk : k < 12) (hw : Cond.fieldLink M.y.cls ix "HopyardModel" (TX11 k).2.1 (TX11 k).2.2.1 ∈ lw_tbl) (hd : (TX11 k).1 = "HopyardModel") (hrf : isRf 14 k = false) (d9 : decode M.cc pc = .ok (.getfield ix, 3)) (kk : Ev X M d (pc + 3) ls (.int (i32 (v k 0)) :: rest) (Hm σ m0 v) o τ) : Ev X M d pc ls (va_rf (some m0) :: rest) (Hm σ m0 v) o τ :=
  Ev.gI (ci := 14) (k := k) (C := RX11) (T := TX11) (N := 47) rfl (by decide) (by omega) hw (Or.inl hd.symm) hrf hG.1 d9 (by rw [Hm_iv0 σ m0 v hk]; exact kk)
/-- an array field -/
theorem Em.gA {k ix : Nat} (hG : GM σ m0) (h1 : 12 ≤ k) (h2 : k < 47) (hw : Cond.fieldLink M.y.cls ix "HopyardModel" (TX11 k).2.1 (TX11 k).2.2.1 ∈ lw_tbl) (hd : (TX11 k).1 = "HopyardModel") (hrf : isRf 14 k = true) (d9 : decode M.cc pc = .ok (.getfield ix, 3)) (kk : Ev X M d (pc + 3) ls (va_rf (some (m0 + (k - 11))) :: rest) (Hm σ m0 v) o τ) : Ev X M d pc ls (va_rf (some m0) :: rest) (Hm σ m0 v) o τ :=
  Ev.gR (ci := 14) (k := k) (C := RX11) (T := TX11) (N := 47) rfl (by decide) h2 hw (Or.inl hd.symm) hrf hG.1 d9 (by rw [show (Hm σ m0 v).rv m0 k = some (m0 + (k - 11)) from (hG.2 k h1 h2).1]; exact kk)
theorem Em.pS {k ix : Nat} {x : Int} (hG : GM σ m0) (hk : k < 12) (hw : Cond.fieldLink M.y.cls ix "HopyardModel" (TX11 k).2.1 (TX11 k).2.2.1 ∈ lw_tbl) (hd : (TX11 k).1 = "HopyardModel") (hfin : (TX11 k).2.2.2 = false) (hrf : isRf 14 k = false) (hty : ftab 14 k = .int) (d9 : decode M.cc pc = .ok (.putfield ix, 3)) (kk : Ev X M d (pc + 3) ls rest (Hm σ m0 (upv v k 0 x)) o τ) : Ev X M d pc ls (.int (i32 x) :: va_rf (some m0) :: rest) (Hm σ m0 v) o τ :=
  Ev.pI (ci := 14) (k := k) (C := RX11) (T := TX11) (N := 47) rfl (by decide) (by omega) hw (Or.inl hd.symm) (Or.inl hfin) hrf (by rw [hty]; rfl) (by rw [hty]; rfl) hG.1 d9 (by rw [Hm_set0 σ m0 v hk]; exact kk)
theorem Em.iald {k : Nat} {i : Int} (hG : GM σ m0) (h1 : 12 ≤ k) (h2 : k < 47) (hkd : mKd k = 20) (h0 : 0 ≤ i) (hi : i < (mLn k : Nat)) (hn : mLn k ≤ 128) (d9 : decode M.cc pc = .ok (.iaload, 1)) (kk : Ev X M d (pc + 1) ls (.int (i32 (v k i)) :: rest) (Hm σ m0 v) o τ) : Ev X M d pc ls (.int (i32 i) :: va_rf (some (m0 + (k - 11))) :: rest) (Hm σ m0 v) o τ :=
  Ev.iald ((hG.2 k h1 h2).2.1.trans hkd) (by rw [show (Hm σ m0 v).ln (m0 + (k - 11)) = mLn k from (hG.2 k h1 h2).2.2]; exact i32_vin h0 hi (by omega)) d9 (by rw [i32_cl h0 ⟨by omega, by omega⟩, Hm_ivA σ m0 v h1 h2, Int.toNat_of_nonneg h0]; exact kk)
theorem Em.zald {k : Nat} {i : Int} (hG : GM σ m0) (h1 : 12 ≤ k) (h2 : k < 47) (hkd : mKd k = 23) (h0 : 0 ≤ i) (hi : i < (mLn k : Nat)) (hn : mLn k ≤ 128) (d9 : decode M.cc pc = .ok (.baload, 1)) (kk : Ev X M d (pc + 1) ls (.int (i32 (v k i)) :: rest) (Hm σ m0 v) o τ) : Ev X M d pc ls (.int (i32 i) :: va_rf (some (m0 + (k - 11))) :: rest) (Hm σ m0 v) o τ :=
  Ev.zald ((hG.2 k h1 h2).2.1.trans hkd) (by rw [show (Hm σ m0 v).ln (m0 + (k - 11)) = mLn k from (hG.2 k h1 h2).2.2]; exact i32_vin h0 hi (by omega)) d9 (by rw [i32_cl h0 ⟨by omega, by omega⟩, Hm_ivA σ m0 v h1 h2, Int.toNat_of_nonneg h0]; exact kk)
theorem Em.iast {k : Nat} {i x : Int} (hG : GM σ m0) (h1 : 12 ≤ k) (h2 : k < 47) (hkd : mKd k = 20) (h0 : 0 ≤ i) (hi : i < (mLn k : Nat)) (hn : mLn k ≤ 128) (d9 : decode M.cc pc = .ok (.iastore, 1)) (kk : Ev X M d (pc + 1) ls rest (Hm σ m0 (upv v k i x)) o τ) : Ev X M d pc ls (.int (i32 x) :: .int (i32 i) :: va_rf (some (m0 + (k - 11))) :: rest) (Hm σ m0 v) o τ :=
  Ev.iast ((hG.2 k h1 h2).2.1.trans hkd) (by rw [show (Hm σ m0 v).ln (m0 + (k - 11)) = mLn k from (hG.2 k h1 h2).2.2]; exact i32_vin h0 hi (by omega)) d9 (by rw [i32_cl h0 ⟨by omega, by omega⟩, Hm_setA σ m0 v h1 h2, Int.toNat_of_nonneg h0]; exact kk)
theorem Em.zast {k : Nat} {i x : Int} (hG : GM σ m0) (h1 : 12 ≤ k) (h2 : k < 47) (hkd : mKd k = 23) (h0 : 0 ≤ i) (hi : i < (mLn k : Nat)) (hn : mLn k ≤ 128) (hx : x = 0 ∨ x = 1) (d9 : decode M.cc pc = .ok (.bastore, 1)) (kk : Ev X M d (pc + 1) ls rest (Hm σ m0 (upv v k i x)) o τ) : Ev X M d pc ls (.int (i32 x) :: .int (i32 i) :: va_rf (some (m0 + (k - 11))) :: rest) (Hm σ m0 v) o τ :=
  Ev.zast ((hG.2 k h1 h2).2.1.trans hkd) (by rw [show (Hm σ m0 v).ln (m0 + (k - 11)) = mLn k from (hG.2 k h1 h2).2.2]; exact i32_vin h0 hi (by omega)) (by rcases hx with rfl | rfl <;> rfl) d9 (by rw [i32_cl h0 ⟨by omega, by omega⟩, Hm_setA σ m0 v h1 h2, Int.toNat_of_nonneg h0]; exact kk)
end MRULES
section IRULES
variable {X : Cx} {σ : Hp} {M : Mt} {d pc : Nat} {ls : List (Option Value)} {rest : List Value} {o : Rs} {τ : Hp}
theorem Ei.add {a b : Int} (d9 : decode M.cc pc = .ok (.iadd, 1)) (k : Ev X M d (pc + 1) ls (.int (i32 (a + b)) :: rest) σ o τ) : Ev X M d pc ls (.int (i32 b) :: .int (i32 a) :: rest) σ o τ := Ev.iadd d9 (by rw [i32_add]; exact k)
theorem Ei.sub {a b : Int} (d9 : decode M.cc pc = .ok (.isub, 1)) (k : Ev X M d (pc + 1) ls (.int (i32 (a - b)) :: rest) σ o τ) : Ev X M d pc ls (.int (i32 b) :: .int (i32 a) :: rest) σ o τ := Ev.isub d9 (by rw [i32_sub]; exact k)
theorem Ei.mul {a b : Int} (d9 : decode M.cc pc = .ok (.imul, 1)) (k : Ev X M d (pc + 1) ls (.int (i32 (a * b)) :: rest) σ o τ) : Ev X M d pc ls (.int (i32 b) :: .int (i32 a) :: rest) σ o τ := Ev.imul d9 (by rw [i32_mul]; exact k)
theorem Ei.inc {i : Nat} {n a : Int} (d9 : decode M.cc pc = .ok (.iinc i n, 3)) (hx : ls[i]? = some (some (.int (i32 a)))) (hn : i < M.ml) (k : Ev X M d (pc + 3) (ls.set i (some (.int (i32 (a + n))))) rest σ o τ) : Ev X M d pc ls rest σ o τ := Ev.iinc d9 hx (i32_add a n) hn k
theorem Ei.const {n : Int} (d9 : decode M.cc pc = .ok (.iconst n, 1)) (k : Ev X M d (pc + 1) ls (.int (i32 n) :: rest) σ o τ) : Ev X M d pc ls rest σ o τ := Ev.iconst d9 rfl k
theorem Ei.icmp_eq_t {a b : Int} {off : Int} {tgt : Nat} (d9 : decode M.cc pc = .ok (.if_icmp .eq off, 3)) (ht : (pc : Int) + off = (tgt : Int)) (ha : R32 a) (hb : R32 b) (hc : a = b) (k : Ev X M d tgt ls rest σ o τ) : Ev X M d pc ls (.int (i32 b) :: .int (i32 a) :: rest) σ o τ := Ev.icmp_eq_t d9 ht ((i32_eq ha hb).mpr hc) k
theorem Ei.icmp_eq_f {a b : Int} {off : Int} {tgt : Nat} (d9 : decode M.cc pc = .ok (.if_icmp .eq off, 3)) (ht : (pc : Int) + off = (tgt : Int)) (ha : R32 a) (hb : R32 b) (hc : ¬ (a = b)) (k : Ev X M d (pc + 3) ls rest σ o τ) : Ev X M d pc ls (.int (i32 b) :: .int (i32 a) :: rest) σ o τ := Ev.icmp_eq_f d9 ht (fun h => hc ((i32_eq ha hb).mp h)) k
theorem Ei.if_eq_t {a : Int} {off : Int} {tgt : Nat} (d9 : decode M.cc pc = .ok (.ifCond .eq off, 3)) (ht : (pc : Int) + off = (tgt : Int)) (ha : R32 a) (hc : a = 0) (k : Ev X M d tgt ls rest σ o τ) : Ev X M d pc ls (.int (i32 a) :: rest) σ o τ := Ev.if_eq_t d9 ht ((i32_eq ha R32_0).mpr hc) k
theorem Ei.if_eq_f {a : Int} {off : Int} {tgt : Nat} (d9 : decode M.cc pc = .ok (.ifCond .eq off, 3)) (ht : (pc : Int) + off = (tgt : Int)) (ha : R32 a) (hc : ¬ (a = 0)) (k : Ev X M d (pc + 3) ls rest σ o τ) : Ev X M d pc ls (.int (i32 a) :: rest) σ o τ := Ev.if_eq_f d9 ht (fun h => hc ((i32_eq ha R32_0).mp h)) k
theorem Ei.icmp_ne_t {a b : Int} {off : Int} {tgt : Nat} (d9 : decode M.cc pc = .ok (.if_icmp .ne off, 3)) (ht : (pc : Int) + off = (tgt : Int)) (ha : R32 a) (hb : R32 b) (hc : ¬ a = b) (k : Ev X M d tgt ls rest σ o τ) : Ev X M d pc ls (.int (i32 b) :: .int (i32 a) :: rest) σ o τ := Ev.icmp_ne_t d9 ht ((not_congr (i32_eq ha hb)).mpr hc) k
theorem Ei.icmp_ne_f {a b : Int} {off : Int} {tgt : Nat} (d9 : decode M.cc pc = .ok (.if_icmp .ne off, 3)) (ht : (pc : Int) + off = (tgt : Int)) (ha : R32 a) (hb : R32 b) (hc : ¬ (¬ a = b)) (k : Ev X M d (pc + 3) ls rest σ o τ) : Ev X M d pc ls (.int (i32 b) :: .int (i32 a) :: rest) σ o τ := Ev.icmp_ne_f d9 ht (fun h => hc ((not_congr (i32_eq ha hb)).mp h)) k
theorem Ei.if_ne_t {a : Int} {off : Int} {tgt : Nat} (d9 : decode M.cc pc = .ok (.ifCond .ne off, 3)) (ht : (pc : Int) + off = (tgt : Int)) (ha : R32 a) (hc : ¬ a = 0) (k : Ev X M d tgt ls rest σ o τ) : Ev X M d pc ls (.int (i32 a) :: rest) σ o τ := Ev.if_ne_t d9 ht ((not_congr (i32_eq ha R32_0)).mpr hc) k
theorem Ei.if_ne_f {a : Int} {off : Int} {tgt : Nat} (d9 : decode M.cc pc = .ok (.ifCond .ne off, 3)) (ht : (pc : Int) + off = (tgt : Int)) (ha : R32 a) (hc : ¬ (¬ a = 0)) (k : Ev X M d (pc + 3) ls rest σ o τ) : Ev X M d pc ls (.int (i32 a) :: rest) σ o τ := Ev.if_ne_f d9 ht (fun h => hc ((not_congr (i32_eq ha R32_0)).mp h)) k
theorem Ei.icmp_lt_t {a b : Int} {off : Int} {tgt : Nat} (d9 : decode M.cc pc = .ok (.if_icmp .lt off, 3)) (ht : (pc : Int) + off = (tgt : Int)) (ha : R32 a) (hb : R32 b) (hc : a < b) (k : Ev X M d tgt ls rest σ o τ) : Ev X M d pc ls (.int (i32 b) :: .int (i32 a) :: rest) σ o τ := Ev.icmp_lt_t d9 ht ((i32_lt ha hb).mpr hc) k
theorem Ei.icmp_lt_f {a b : Int} {off : Int} {tgt : Nat} (d9 : decode M.cc pc = .ok (.if_icmp .lt off, 3)) (ht : (pc : Int) + off = (tgt : Int)) (ha : R32 a) (hb : R32 b) (hc : ¬ (a < b)) (k : Ev X M d (pc + 3) ls rest σ o τ) : Ev X M d pc ls (.int (i32 b) :: .int (i32 a) :: rest) σ o τ := Ev.icmp_lt_f d9 ht (fun h => hc ((i32_lt ha hb).mp h)) k
theorem Ei.if_lt_t {a : Int} {off : Int} {tgt : Nat} (d9 : decode M.cc pc = .ok (.ifCond .lt off, 3)) (ht : (pc : Int) + off = (tgt : Int)) (ha : R32 a) (hc : a < 0) (k : Ev X M d tgt ls rest σ o τ) : Ev X M d pc ls (.int (i32 a) :: rest) σ o τ := Ev.if_lt_t d9 ht ((i32_lt ha R32_0).mpr hc) k
theorem Ei.if_lt_f {a : Int} {off : Int} {tgt : Nat} (d9 : decode M.cc pc = .ok (.ifCond .lt off, 3)) (ht : (pc : Int) + off = (tgt : Int)) (ha : R32 a) (hc : ¬ (a < 0)) (k : Ev X M d (pc + 3) ls rest σ o τ) : Ev X M d pc ls (.int (i32 a) :: rest) σ o τ := Ev.if_lt_f d9 ht (fun h => hc ((i32_lt ha R32_0).mp h)) k
theorem Ei.icmp_ge_t {a b : Int} {off : Int} {tgt : Nat} (d9 : decode M.cc pc = .ok (.if_icmp .ge off, 3)) (ht : (pc : Int) + off = (tgt : Int)) (ha : R32 a) (hb : R32 b) (hc : b ≤ a) (k : Ev X M d tgt ls rest σ o τ) : Ev X M d pc ls (.int (i32 b) :: .int (i32 a) :: rest) σ o τ := Ev.icmp_ge_t d9 ht ((i32_le hb ha).mpr hc) k
theorem Ei.icmp_ge_f {a b : Int} {off : Int} {tgt : Nat} (d9 : decode M.cc pc = .ok (.if_icmp .ge off, 3)) (ht : (pc : Int) + off = (tgt : Int)) (ha : R32 a) (hb : R32 b) (hc : ¬ (b ≤ a)) (k : Ev X M d (pc + 3) ls rest σ o τ) : Ev X M d pc ls (.int (i32 b) :: .int (i32 a) :: rest) σ o τ := Ev.icmp_ge_f d9 ht (fun h => hc ((i32_le hb ha).mp h)) k
theorem Ei.if_ge_t {a : Int} {off : Int} {tgt : Nat} (d9 : decode M.cc pc = .ok (.ifCond .ge off, 3)) (ht : (pc : Int) + off = (tgt : Int)) (ha : R32 a) (hc : 0 ≤ a) (k : Ev X M d tgt ls rest σ o τ) : Ev X M d pc ls (.int (i32 a) :: rest) σ o τ := Ev.if_ge_t d9 ht ((i32_le R32_0 ha).mpr hc) k
theorem Ei.if_ge_f {a : Int} {off : Int} {tgt : Nat} (d9 : decode M.cc pc = .ok (.ifCond .ge off, 3)) (ht : (pc : Int) + off = (tgt : Int)) (ha : R32 a) (hc : ¬ (0 ≤ a)) (k : Ev X M d (pc + 3) ls rest σ o τ) : Ev X M d pc ls (.int (i32 a) :: rest) σ o τ := Ev.if_ge_f d9 ht (fun h => hc ((i32_le R32_0 ha).mp h)) k
theorem Ei.icmp_gt_t {a b : Int} {off : Int} {tgt : Nat} (d9 : decode M.cc pc = .ok (.if_icmp .gt off, 3)) (ht : (pc : Int) + off = (tgt : Int)) (ha : R32 a) (hb : R32 b) (hc : b < a) (k : Ev X M d tgt ls rest σ o τ) : Ev X M d pc ls (.int (i32 b) :: .int (i32 a) :: rest) σ o τ := Ev.icmp_gt_t d9 ht ((i32_lt hb ha).mpr hc) k
theorem Ei.icmp_gt_f {a b : Int} {off : Int} {tgt : Nat} (d9 : decode M.cc pc = .ok (.if_icmp .gt off, 3)) (ht : (pc : Int) + off = (tgt : Int)) (ha : R32 a) (hb : R32 b) (hc : ¬ (b < a)) (k : Ev X M d (pc + 3) ls rest σ o τ) : Ev X M d pc ls (.int (i32 b) :: .int (i32 a) :: rest) σ o τ := Ev.icmp_gt_f d9 ht (fun h => hc ((i32_lt hb ha).mp h)) k
theorem Ei.if_gt_t {a : Int} {off : Int} {tgt : Nat} (d9 : decode M.cc pc = .ok (.ifCond .gt off, 3)) (ht : (pc : Int) + off = (tgt : Int)) (ha : R32 a) (hc : 0 < a) (k : Ev X M d tgt ls rest σ o τ) : Ev X M d pc ls (.int (i32 a) :: rest) σ o τ := Ev.if_gt_t d9 ht ((i32_lt R32_0 ha).mpr hc) k
theorem Ei.if_gt_f {a : Int} {off : Int} {tgt : Nat} (d9 : decode M.cc pc = .ok (.ifCond .gt off, 3)) (ht : (pc : Int) + off = (tgt : Int)) (ha : R32 a) (hc : ¬ (0 < a)) (k : Ev X M d (pc + 3) ls rest σ o τ) : Ev X M d pc ls (.int (i32 a) :: rest) σ o τ := Ev.if_gt_f d9 ht (fun h => hc ((i32_lt R32_0 ha).mp h)) k
theorem Ei.icmp_le_t {a b : Int} {off : Int} {tgt : Nat} (d9 : decode M.cc pc = .ok (.if_icmp .le off, 3)) (ht : (pc : Int) + off = (tgt : Int)) (ha : R32 a) (hb : R32 b) (hc : a ≤ b) (k : Ev X M d tgt ls rest σ o τ) : Ev X M d pc ls (.int (i32 b) :: .int (i32 a) :: rest) σ o τ := Ev.icmp_le_t d9 ht ((i32_le ha hb).mpr hc) k
theorem Ei.icmp_le_f {a b : Int} {off : Int} {tgt : Nat} (d9 : decode M.cc pc = .ok (.if_icmp .le off, 3)) (ht : (pc : Int) + off = (tgt : Int)) (ha : R32 a) (hb : R32 b) (hc : ¬ (a ≤ b)) (k : Ev X M d (pc + 3) ls rest σ o τ) : Ev X M d pc ls (.int (i32 b) :: .int (i32 a) :: rest) σ o τ := Ev.icmp_le_f d9 ht (fun h => hc ((i32_le ha hb).mp h)) k
theorem Ei.if_le_t {a : Int} {off : Int} {tgt : Nat} (d9 : decode M.cc pc = .ok (.ifCond .le off, 3)) (ht : (pc : Int) + off = (tgt : Int)) (ha : R32 a) (hc : a ≤ 0) (k : Ev X M d tgt ls rest σ o τ) : Ev X M d pc ls (.int (i32 a) :: rest) σ o τ := Ev.if_le_t d9 ht ((i32_le ha R32_0).mpr hc) k
theorem Ei.if_le_f {a : Int} {off : Int} {tgt : Nat} (d9 : decode M.cc pc = .ok (.ifCond .le off, 3)) (ht : (pc : Int) + off = (tgt : Int)) (ha : R32 a) (hc : ¬ (a ≤ 0)) (k : Ev X M d (pc + 3) ls rest σ o τ) : Ev X M d pc ls (.int (i32 a) :: rest) σ o τ := Ev.if_le_f d9 ht (fun h => hc ((i32_le ha R32_0).mp h)) k
end IRULES
