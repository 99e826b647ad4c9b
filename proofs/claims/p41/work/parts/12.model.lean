/-! the reference's object: its 36 cells lie side by side (the object at m0, its arrays behind it in the order of the fields); what they hold is a function v of field and index -/
def i32 (z : Int) : Int32 := Int32.ofInt z
abbrev R32 (z : Int) : Prop := -2147483648 ≤ z ∧ z < 2147483648
theorem i32_add (a b : Int) : i32 a + i32 b = i32 (a + b) := (Int32.ofInt_add a b).symm
theorem i32_sub (a b : Int) : i32 a - i32 b = i32 (a - b) := (Int32.ofInt_sub a b).symm
theorem i32_mul (a b : Int) : i32 a * i32 b = i32 (a * b) := (Int32.ofInt_mul a b).symm
theorem R32_0 : R32 0 := ⟨by decide, by decide⟩
theorem i32_toInt {a : Int} (h : R32 a) : (i32 a).toInt = a := Int32.toInt_ofInt_of_le h.1 h.2
theorem i32_lt {a b : Int} (ha : R32 a) (hb : R32 b) : i32 a < i32 b ↔ a < b := by rw [Int32.lt_iff_toInt_lt, i32_toInt ha, i32_toInt hb]
theorem i32_le {a b : Int} (ha : R32 a) (hb : R32 b) : i32 a ≤ i32 b ↔ a ≤ b := by rw [Int32.le_iff_toInt_le, i32_toInt ha, i32_toInt hb]
theorem i32_eq {a b : Int} (ha : R32 a) (hb : R32 b) : i32 a = i32 b ↔ a = b := by
  constructor
  · intro h
    have := congrArg Int32.toInt h
    rwa [i32_toInt ha, i32_toInt hb] at this
  · exact fun h => by rw [h]
theorem i32_cl {a : Int} (h0 : 0 ≤ a) (h : R32 a) : (i32 a).toNatClampNeg = a.toNat := by
  show (i32 a).toInt.toNat = a.toNat
  rw [i32_toInt h]
theorem i32_asI (x : Int32) : i32 x.toInt = x := Int32.ofInt_toInt x
theorem i32_vin {a : Int} {n : Nat} (h0 : 0 ≤ a) (h : a < n) (hn : n ≤ 60000) : vp_in (i32 a) n := by
  have hr : R32 a := ⟨by omega, by omega⟩
  rintro (h1 | h1)
  · have : i32 a < i32 0 := h1
    rw [i32_lt hr ⟨by omega, by omega⟩] at this
    omega
  · rw [i32_cl h0 hr] at h1
    omega
abbrev Vw : Type := Nat → Int → Int
def upv (v : Vw) (k : Nat) (i x : Int) : Vw := fun k' i' => if k' = k ∧ i' = i then x else v k' i'
theorem upv_eq (v : Vw) (k : Nat) (i x : Int) : upv v k i x k i = x := if_pos ⟨rfl, rfl⟩
theorem upv_ne (v : Vw) {k k' : Nat} {i i' : Int} (x : Int) (h : ¬ (k' = k ∧ i' = i)) : upv v k i x k' i' = v k' i' := if_neg h
section MRULES
variable {X : Cx} {σ : Hp} {m0 : Nat} {M : Mt} {d pc : Nat} {ls : List (Option Value)} {rest : List Value} {v v' : Vw} {o : Rs} {τ : Hp}
end MRULES
section IRULES
variable {X : Cx} {σ : Hp} {M : Mt} {d pc : Nat} {ls : List (Option Value)} {rest : List Value} {o : Rs} {τ : Hp}
theorem Ei.add {a b : Int} (d9 : decode M.cc pc = .ok (.iadd, 1)) (k : Ev X M d (pc + 1) ls (.int (i32 (a + b)) :: rest) σ o τ) : Ev X M d pc ls (.int (i32 b) :: .int (i32 a) :: rest) σ o τ := Ev.iadd d9 (by rw [i32_add]; exact k)
theorem Ei.sub {a b : Int} (d9 : decode M.cc pc = .ok (.isub, 1)) (k : Ev X M d (pc + 1) ls (.int (i32 (a - b)) :: rest) σ o τ) : Ev X M d pc ls (.int (i32 b) :: .int (i32 a) :: rest) σ o τ := Ev.isub d9 (by rw [i32_sub]; exact k)
theorem Ei.mul {a b : Int} (d9 : decode M.cc pc = .ok (.imul, 1)) (k : Ev X M d (pc + 1) ls (.int (i32 (a * b)) :: rest) σ o τ) : Ev X M d pc ls (.int (i32 b) :: .int (i32 a) :: rest) σ o τ := Ev.imul d9 (by rw [i32_mul]; exact k)
theorem Ei.inc {i : Nat} {n a : Int} (d9 : decode M.cc pc = .ok (.iinc i n, 3)) (hx : ls[i]? = some (some (.int (i32 a)))) (hn : i < M.ml) (k : Ev X M d (pc + 3) (ls.set i (some (.int (i32 (a + n))))) rest σ o τ) : Ev X M d pc ls rest σ o τ := Ev.iinc d9 hx (i32_add a n) hn k
theorem Ei.const {n : Int} (d9 : decode M.cc pc = .ok (.iconst n, 1)) (k : Ev X M d (pc + 1) ls (.int (i32 n) :: rest) σ o τ) : Ev X M d pc ls rest σ o τ := Ev.iconst d9 rfl k
theorem Ei.icmp_eq_t {a b : Int} {off : Int} {tgt : Nat} (d9 : decode M.cc pc = .ok (.if_icmp .eq off, 3)) (ht : (pc : Int) + off = (tgt : Int)) (ha : R32 a) (hb : R32 b) (hc : a = b) (k : Ev X M d tgt ls rest σ o τ) : Ev X M d pc ls (.int (i32 b) :: .int (i32 a) :: rest) σ o τ := Ev.icmp_eq_t d9 ht ((i32_eq ha hb).mpr hc) k
theorem Ei.icmp_eq_f {a b : Int} {off : Int} {tgt : Nat} (d9 : decode M.cc pc = .ok (.if_icmp .eq off, 3)) (ht : (pc : Int) + off = (tgt : Int)) (ha : R32 a) (hb : R32 b) (hc : ¬ (a = b)) (k : Ev X M d (pc + 3) ls rest σ o τ) : Ev X M d pc ls (.int (i32 b) :: .int (i32 a) :: rest) σ o τ := Ev.icmp_eq_f d9 ht (fun h => hc ((i32_eq ha hb).mp h)) k
theorem Ei.if_eq_t {a : Int} {off : Int} {tgt : Nat} (d9 : decode M.cc pc = .ok (.ifCond .eq off, 3)) (ht : (pc : Int) + off = (tgt : Int)) (ha : R32 a) (hc : a = 0) (k : Ev X M d tgt ls rest σ o τ) : Ev X M d pc ls (.int (i32 a) :: rest) σ o τ := Ev.if_eq_t d9 ht ((i32_eq ha R32_0).mpr hc) k
theorem Ei.if_eq_f {a : Int} {off : Int} {tgt : Nat} (d9 : decode M.cc pc = .ok (.ifCond .eq off, 3)) (ht : (pc : Int) + off = (tgt : Int)) (ha : R32 a) (hc : ¬ (a = 0)) (k : Ev X M d (pc + 3) ls rest σ o τ) : Ev X M d pc ls (.int (i32 a) :: rest) σ o τ := Ev.if_eq_f d9 ht (fun h => hc ((i32_eq ha R32_0).mp h)) k
theorem Ei.icmp_ne_t {a b : Int} {off : Int} {tgt : Nat} (d9 : decode M.cc pc = .ok (.if_icmp .ne off, 3)) (ht : (pc : Int) + off = (tgt : Int)) (ha : R32 a) (hb : R32 b) (hc : ¬ a = b) (k : Ev X M d tgt ls rest σ o τ) : Ev X M d pc ls (.int (i32 b) :: .int (i32 a) :: rest) σ o τ := Ev.icmp_ne_t d9 ht ((not_congr (i32_eq ha hb)).mpr hc) k
theorem Ei.icmp_ne_f {a b : Int} {off : Int} {tgt : Nat} (d9 : decode M.cc pc = .ok (.if_icmp .ne off, 3)) (ht : (pc : Int) + off = (tgt : Int)) (ha : R32 a) (hb : R32 b) (hc : ¬ (¬ a = b)) (k : Ev X M d (pc + 3) ls rest σ o τ) : Ev X M d pc ls (.int (i32 b) :: .int (i32 a) :: rest) σ o τ := Ev.icmp_ne_f d9 ht (fun h => hc ((not_congr (i32_eq ha hb)).mp h)) k
theorem Ei.if_ne_t {a : Int} {off : Int} {tgt : Nat} (d9 : decode M.cc pc = .ok (.ifCond .ne off, 3)) (ht : (pc : Int) + off = (tgt : Int)) (ha : R32 a) (hc : ¬ a = 0) (k : Ev X M d tgt ls rest σ o τ) : Ev X M d pc ls (.int (i32 a) :: rest) σ o τ := Ev.if_ne_t d9 ht ((not_congr (i32_eq ha R32_0)).mpr hc) k
theorem Ei.if_ne_f {a : Int} {off : Int} {tgt : Nat} (d9 : decode M.cc pc = .ok (.ifCond .ne off, 3)) (ht : (pc : Int) + off = (tgt : Int)) (ha : R32 a) (hc : ¬ (¬ a = 0)) (k : Ev X M d (pc + 3) ls rest σ o τ) : Ev X M d pc ls (.int (i32 a) :: rest) σ o τ := Ev.if_ne_f d9 ht (fun h => hc ((not_congr (i32_eq ha R32_0)).mp h)) k
theorem Ei.icmp_lt_t {a b : Int} {off : Int} {tgt : Nat} (d9 : decode M.cc pc = .ok (.if_icmp .lt off, 3)) (ht : (pc : Int) + off = (tgt : Int)) (ha : R32 a) (hb : R32 b) (hc : a < b) (k : Ev X M d tgt ls rest σ o τ) : Ev X M d pc ls (.int (i32 b) :: .int (i32 a) :: rest) σ o τ := Ev.icmp_lt_t d9 ht ((i32_lt ha hb).mpr hc) k
theorem Ei.icmp_lt_f {a b : Int} {off : Int} {tgt : Nat} (d9 : decode M.cc pc = .ok (.if_icmp .lt off, 3)) (ht : (pc : Int) + off = (tgt : Int)) (ha : R32 a) (hb : R32 b) (hc : ¬ (a < b)) (k : Ev X M d (pc + 3) ls rest σ o τ) : Ev X M d pc ls (.int (i32 b) :: .int (i32 a) :: rest) σ o τ := Ev.icmp_lt_f d9 ht (fun h => hc ((i32_lt ha hb).mp h)) k
theorem Ei.if_lt_t {a : Int} {off : Int} {tgt : Nat} (d9 : decode M.cc pc = .ok (.ifCond .lt off, 3)) (ht : (pc : Int) + off = (tgt : Int)) (ha : R32 a) (hc : a < 0) (k : Ev X M d tgt ls rest σ o τ) : Ev X M d pc ls (.int (i32 a) :: rest) σ o τ := Ev.if_lt_t d9 ht ((i32_lt ha R32_0).mpr hc) k
theorem Ei.if_lt_f {a : Int} {off : Int} {tgt : Nat} (d9 : decode M.cc pc = .ok (.ifCond .lt off, 3)) (ht : (pc : Int) + off = (tgt : Int)) (ha : R32 a) (hc : ¬ (a < 0)) (k : Ev X M d (pc + 3) ls rest σ o τ) : Ev X M d pc ls (.int (i32 a) :: rest) σ o τ := Ev.if_lt_f d9 ht (fun h => hc ((i32_lt ha R32_0).mp h)) k
theorem Ei.icmp_ge_t {a b : Int} {off : Int} {tgt : Nat} (d9 : decode M.cc pc = .ok (.if_icmp .ge off, 3)) (ht : (pc : Int) + off = (tgt : Int)) (ha : R32 a) (hb : R32 b) (hc : b ≤ a) (k : Ev X M d tgt ls rest σ o τ) : Ev X M d pc ls (.int (i32 b) :: .int (i32 a) :: rest) σ o τ := Ev.icmp_ge_t d9 ht ((i32_le hb ha).mpr hc) k
theorem Ei.icmp_ge_f {a b : Int} {off : Int} {tgt : Nat} (d9 : decode M.cc pc = .ok (.if_icmp .ge off, 3)) (ht : (pc : Int) + off = (tgt : Int)) (ha : R32 a) (hb : R32 b) (hc : ¬ (b ≤ a)) (k : Ev X M d (pc + 3) ls rest σ o τ) : Ev X M d pc ls (.int (i32 b) :: .int (i32 a) :: rest) σ o τ := Ev.icmp_ge_f d9 ht (fun h => hc ((i32_le hb ha).mp h)) k
theorem Ei.if_ge_t {a : Int} {off : Int} {tgt : Nat} (d9 : decode M.cc pc = .ok (.ifCond .ge off, 3)) (ht : (pc : Int) + off = (tgt : Int)) (ha : R32 a) (hc : 0 ≤ a) (k : Ev X M d tgt ls rest σ o τ) : Ev X M d pc ls (.int (i32 a) :: rest) σ o τ := Ev.if_ge_t d9 ht ((i32_le R32_0 ha).mpr hc) k
theorem Ei.if_ge_f {a : Int} {off : Int} {tgt : Nat} (d9 : decode M.cc pc = .ok (.ifCond .ge off, 3)) (ht : (pc : Int) + off = (tgt : Int)) (ha : R32 a) (hc : ¬ (0 ≤ a)) (k : Ev X M d (pc + 3) ls rest σ o τ) : Ev X M d pc ls (.int (i32 a) :: rest) σ o τ := Ev.if_ge_f d9 ht (fun h => hc ((i32_le R32_0 ha).mp h)) k
theorem Ei.icmp_gt_t {a b : Int} {off : Int} {tgt : Nat} (d9 : decode M.cc pc = .ok (.if_icmp .gt off, 3)) (ht : (pc : Int) + off = (tgt : Int)) (ha : R32 a) (hb : R32 b) (hc : b < a) (k : Ev X M d tgt ls rest σ o τ) : Ev X M d pc ls (.int (i32 b) :: .int (i32 a) :: rest) σ o τ := Ev.icmp_gt_t d9 ht ((i32_lt hb ha).mpr hc) k
theorem Ei.icmp_gt_f {a b : Int} {off : Int} {tgt : Nat} (d9 : decode M.cc pc = .ok (.if_icmp .gt off, 3)) (ht : (pc : Int) + off = (tgt : Int)) (ha : R32 a) (hb : R32 b) (hc : ¬ (b < a)) (k : Ev X M d (pc + 3) ls rest σ o τ) : Ev X M d pc ls (.int (i32 b) :: .int (i32 a) :: rest) σ o τ := Ev.icmp_gt_f d9 ht (fun h => hc ((i32_lt hb ha).mp h)) k
theorem Ei.if_gt_t {a : Int} {off : Int} {tgt : Nat} (d9 : decode M.cc pc = .ok (.ifCond .gt off, 3)) (ht : (pc : Int) + off = (tgt : Int)) (ha : R32 a) (hc : 0 < a) (k : Ev X M d tgt ls rest σ o τ) : Ev X M d pc ls (.int (i32 a) :: rest) σ o τ := Ev.if_gt_t d9 ht ((i32_lt R32_0 ha).mpr hc) k
theorem Ei.if_gt_f {a : Int} {off : Int} {tgt : Nat} (d9 : decode M.cc pc = .ok (.ifCond .gt off, 3)) (ht : (pc : Int) + off = (tgt : Int)) (ha : R32 a) (hc : ¬ (0 < a)) (k : Ev X M d (pc + 3) ls rest σ o τ) : Ev X M d pc ls (.int (i32 a) :: rest) σ o τ := Ev.if_gt_f d9 ht (fun h => hc ((i32_lt R32_0 ha).mp h)) k
theorem Ei.icmp_le_t {a b : Int} {off : Int} {tgt : Nat} (d9 : decode M.cc pc = .ok (.if_icmp .le off, 3)) (ht : (pc : Int) + off = (tgt : Int)) (ha : R32 a) (hb : R32 b) (hc : a ≤ b) (k : Ev X M d tgt ls rest σ o τ) : Ev X M d pc ls (.int (i32 b) :: .int (i32 a) :: rest) σ o τ := Ev.icmp_le_t d9 ht ((i32_le ha hb).mpr hc) k
theorem Ei.icmp_le_f {a b : Int} {off : Int} {tgt : Nat} (d9 : decode M.cc pc = .ok (.if_icmp .le off, 3)) (ht : (pc : Int) + off = (tgt : Int)) (ha : R32 a) (hb : R32 b) (hc : ¬ (a ≤ b)) (k : Ev X M d (pc + 3) ls rest σ o τ) : Ev X M d pc ls (.int (i32 b) :: .int (i32 a) :: rest) σ o τ := Ev.icmp_le_f d9 ht (fun h => hc ((i32_le ha hb).mp h)) k
theorem Ei.if_le_t {a : Int} {off : Int} {tgt : Nat} (d9 : decode M.cc pc = .ok (.ifCond .le off, 3)) (ht : (pc : Int) + off = (tgt : Int)) (ha : R32 a) (hc : a ≤ 0) (k : Ev X M d tgt ls rest σ o τ) : Ev X M d pc ls (.int (i32 a) :: rest) σ o τ := Ev.if_le_t d9 ht ((i32_le ha R32_0).mpr hc) k
theorem Ei.if_le_f {a : Int} {off : Int} {tgt : Nat} (d9 : decode M.cc pc = .ok (.ifCond .le off, 3)) (ht : (pc : Int) + off = (tgt : Int)) (ha : R32 a) (hc : ¬ (a ≤ 0)) (k : Ev X M d (pc + 3) ls rest σ o τ) : Ev X M d pc ls (.int (i32 a) :: rest) σ o τ := Ev.if_le_f d9 ht (fun h => hc ((i32_le ha R32_0).mp h)) k
end IRULES
