/-! the reference's object: its 36 cells lie side by side (the object at m0, its arrays behind it in the order of the fields); what they hold is a function v of field and index -/
def i32 (z : Int) : Int32 := Int32.ofInt z
abbrev R32 (z : Int) : Prop := -2147483648 ≤ z ∧ z < 2147483648
theorem i32_add (a b : Int) : i32 a + i32 b = i32 (a + b) := (Int32.ofInt_add a b).symm
theorem i32_sub (a b : Int) : i32 a - i32 b = i32 (a - b) := (Int32.ofInt_sub a b).symm
theorem i32_mul (a b : Int) : i32 a * i32 b = i32 (a * b) := (Int32.ofInt_mul a b).symm
theorem R32_0 : R32 0 := ⟨by decide, by decide⟩
theorem i32_toInt {a : Int} (h : R32 a) : (i32 a).toInt = a := Int32.toInt_ofInt_of_le h.1 h.2
theorem i32_lt {a b : Int} (ha : R32 a) (hb : R32 b) : i32 a < i32 b ↔ a < b := by rw [Int32.lt_iff_toInt_lt, i32_toInt ha, i32_toInt hb]
theorem i32_le {a b : Int} (ha : R32 a) (hb : R32 b) : i32 a ≤ i32 b ↔ a ≤ b := by rw [Int32.le_iff_toInt_le, i32_toInt ha, i32_toInt hb]
theorem i32_eq {a b : Int} (ha : R32 a) (hb : R32 b) : i32 a = i32 b ↔ a = b := by
  constructor
  · intro h
    have := congrArg Int32.toInt h
    rwa [i32_toInt ha, i32_toInt hb] at this
  · exact fun h => by rw [h]
theorem i32_cl {a : Int} (h0 : 0 ≤ a) (h : R32 a) : (i32 a).toNatClampNeg = a.toNat := by
  show (i32 a).toInt.toNat = a.toNat
  rw [i32_toInt h]
theorem i32_asI (x : Int32) : i32 x.toInt = x := Int32.ofInt_toInt x
theorem i32_vin {a : Int} {n : Nat} (h0 : 0 ≤ a) (h : a < n) (hn : n ≤ 60000) : vp_in (i32 a) n := by
  have hr : R32 a := ⟨by omega, by omega⟩
  rintro (h1 | h1)
  · have : i32 a < i32 0 := h1
    rw [i32_lt hr ⟨by omega, by omega⟩] at this
    omega
  · rw [i32_cl h0 hr] at h1
    omega
abbrev Vw : Type := Nat → Int → Int
def upv (v : Vw) (k : Nat) (i x : Int) : Vw := fun k' i' => if k' = k ∧ i' = i then x else v k' i'
theorem upv_eq (v : Vw) (k : Nat) (i x : Int) : upv v k i x k i = x := if_pos ⟨rfl, rfl⟩
theorem upv_ne (v : Vw) {k k' : Nat} {i i' : Int} (x : Int) (h : ¬ (k' = k ∧ i' = i)) : upv v k i x k' i' = v k' i' := if_neg h
section MRULES
variable {X : Cx} {σ : Hp} {m0 : Nat} {M : Mt} {d pc : Nat} {ls : List (Option Value)} {rest : List Value} {v v' : Vw} {o : Rs} {τ : Hp}
end MRULES
section IRULES
variable {X : Cx} {σ : Hp} {M : Mt} {d pc : Nat} {ls : List (Option Value)} {rest : List Value} {o : Rs} {τ : Hp}
end IRULES
