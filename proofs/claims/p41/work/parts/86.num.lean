/-! numbers: remainders, the script's numbers -/
theorem i32_div {a n : Int} (h0 : 0 ≤ a) (ha : R32 a) (h1 : 0 < n) (hn : R32 n) : i32 a / i32 n = i32 (a / n) := by
  have h := Int32.ofInt_tdiv (a := a) (b := n) (by show -2147483648 ≤ a; omega) (by show a ≤ 2147483647; omega) (by show -2147483648 ≤ n; omega) (by show n ≤ 2147483647; omega)
  rw [Int.tdiv_eq_ediv_of_nonneg h0] at h
  exact h.symm
theorem i32_rem {a n : Int} (h0 : 0 ≤ a) (ha : R32 a) (h1 : 0 < n) (hn : R32 n) : i32 a - i32 a / i32 n * i32 n = i32 (a % n) := by
  rw [i32_div h0 ha h1 hn, i32_mul, i32_sub]
  congr 1
  have := Int.emod_add_mul_ediv a n
  rw [Int.mul_comm] at this
  omega
theorem i32_ne0 {n : Int} (h1 : 0 < n) (hn : R32 n) : ¬ i32 n = 0 := fun h => by
  have := (i32_eq hn R32_0).mp h
  omega
section LREM
variable {X : Cx} {M : Mt} {d pc : Nat} {ls : List (Option Value)} {rest : List Value} {σ τ : Hp} {o : Rs}
theorem Lv.irem {x y : Int32} (d9 : decode M.cc pc = .ok (.irem, 1)) (hne : ¬ y = 0) (k : Lv X M d (pc + 1) ls (.int (x - x / y * y) :: rest) σ o τ) : Lv X M d pc ls (.int y :: .int x :: rest) σ o τ :=
  Lv.pure (fun _ _ _ _ _ _ _ _ _ _ _ _ _ _ _ _ hF _ _ _ _ _ _ hl kk => lv_irem hF.1 hF.2.1 d9 hne (kk _ hl)) k
theorem Li.rem {a n : Int} (h0 : 0 ≤ a) (ha : R32 a) (h1 : 0 < n) (hn : R32 n) (d9 : decode M.cc pc = .ok (.irem, 1)) (k : Lv X M d (pc + 1) ls (.int (i32 (a % n)) :: rest) σ o τ) : Lv X M d pc ls (.int (i32 n) :: .int (i32 a) :: rest) σ o τ :=
  Lv.irem d9 (i32_ne0 h1 hn) (by rw [i32_rem h0 ha h1 hn]; exact k)
/-- half of a word, as a number that isn't negative -/
def hlf (x : Int32) : Int := (x.toUInt32.toNat / 2 : Nat)
theorem hlf_r (x : Int32) : 0 ≤ hlf x ∧ R32 (hlf x) := by
  have := x.toUInt32.toNat_lt
  unfold hlf
  refine ⟨by omega, by omega, by omega⟩
theorem hlf_eq (x : Int32) : (x.toUInt32 >>> ((i32 1).toUInt32 &&& Int32.toUInt32 31)).toInt32 = i32 (hlf x) := by
  have e : ((i32 1).toUInt32 &&& Int32.toUInt32 31) = 1 := by decide
  rw [e]
  have h : x.toUInt32 >>> 1 = UInt32.ofNat (x.toUInt32.toNat / 2) := by
    apply UInt32.toNat_inj.mp
    have := x.toUInt32.toNat_lt
    rw [UInt32.toNat_shiftRight, UInt32.toNat_ofNat']
    rw [Nat.mod_eq_of_lt (show x.toUInt32.toNat / 2 < 2 ^ 32 by omega)]
    show x.toUInt32.toNat >>> 1 = _
    rw [Nat.shiftRight_eq_div_pow]
  rw [h]
  show _ = Int32.ofInt ((x.toUInt32.toNat / 2 : Nat) : Int)
  rw [Int32.ofInt_eq_ofNat]
  rfl
end LREM
