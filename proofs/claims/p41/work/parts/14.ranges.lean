/-! ranges of the fields of the reference: T bounds the days and the calls so far, E the turns -/
def loV (k : Nat) (T : Int) : Int := match k with
  | 19 => -1
  | 43 => -1
  | _ => 0
def hiV (k : Nat) (T E : Int) : Int := match k with
  | 0 => 4
  | 1 => 5
  | 2 => 8
  | 3 => 3
  | 4 => 60
  | 5 => 30
  | 6 => 20
  | 7 => 6
  | 8 => T
  | 9 => 127
  | 10 => E
  | 11 => 20
  | 12 => 3
  | 13 => 14
  | 14 => 14
  | 15 => 3
  | 16 => 29
  | 17 => 2
  | 18 => E
  | 19 => 3
  | 20 => 1
  | 21 => 9 * T
  | 22 => 3
  | 23 => 4
  | 24 => T
  | 25 => 1
  | 26 => 4
  | 27 => 4
  | 28 => 4
  | 29 => 7
  | 30 => 15
  | 31 => 20
  | 32 => T + 99
  | 33 => 4
  | 34 => 255
  | 35 => T
  | 36 => 4
  | 37 => 40
  | 38 => 1
  | 39 => 4
  | 40 => 4
  | 41 => 4
  | 42 => T + 300
  | 43 => 3
  | 44 => 29
  | 45 => 19
  | 46 => 20
  | _ => 0
def IM (v : Vw) (T E : Int) : Prop := (0 ≤ T ∧ T ≤ 20000 ∧ 0 ≤ E ∧ E ≤ 1000000000) ∧ ∀ (k : Nat) (i : Int), loV k T ≤ v k i ∧ v k i ≤ hiV k T E
theorem IM.up {v : Vw} {T E : Int} (h : IM v T E) (k : Nat) (i x : Int) (hx : loV k T ≤ x ∧ x ≤ hiV k T E) : IM (upv v k i x) T E := ⟨h.1, fun k' i' => by
  unfold upv
  split
  · rename_i hc
    rw [hc.1]
    exact hx
  · exact h.2 k' i'⟩
theorem loV_mono {k : Nat} {T T' : Int} (h : T ≤ T') : loV k T' ≤ loV k T := by
  unfold loV
  split <;> omega
theorem hiV_mono {k : Nat} {T T' E E' : Int} (h : T ≤ T') (h2 : E ≤ E') : hiV k T E ≤ hiV k T' E' := by
  unfold hiV
  split <;> omega
theorem IM.mono {v : Vw} {T E T' E' : Int} (h : IM v T E) (h1 : T ≤ T') (h2 : E ≤ E') (h3 : T' ≤ 20000) (h4 : E' ≤ 1000000000) : IM v T' E' :=
  ⟨⟨by have := h.1; omega, h3, by have := h.1; omega, h4⟩, fun k i => ⟨Int.le_trans (loV_mono h1) (h.2 k i).1, Int.le_trans (h.2 k i).2 (hiV_mono h1 h2)⟩⟩
theorem upv_nk {v : Vw} {k : Nat} {i x : Int} {k' : Nat} {i' : Int} (h : ¬ k' = k) : upv v k i x k' i' = v k' i' := upv_ne v x (fun e => h e.1)
theorem upv_ni {v : Vw} {k : Nat} {i x : Int} {k' : Nat} {i' : Int} (h : ¬ i' = i) : upv v k i x k' i' = v k' i' := upv_ne v x (fun e => h e.2)
def lsub : List (Option Value) → List (Option Value) → Prop
  | [], _ => True
  | none :: a, _ :: b => lsub a b
  | some x :: a, y :: b => y = some x ∧ lsub a b
  | _ :: _, [] => False
theorem lsub.mono {ls' : List (Option Value)} : ∀ {ls : List (Option Value)}, lsub ls' ls → ∀ (i : Nat) (v : Value), ls'[i]? = some (some v) → ls[i]? = some (some v) := by
  induction ls' with
  | nil => exact fun _ i v h => by simp at h
  | cons a l ih =>
    intro ls h i v hi
    cases ls with
    | nil => cases a <;> exact h.elim
    | cons b m =>
      cases a with
      | none =>
        cases i with
        | zero => simp at hi
        | succ j => simpa using ih (ls := m) h j v (by simpa using hi)
      | some x =>
        cases i with
        | zero =>
          have h1 : b = some x := h.1
          simp at hi
          subst hi
          simp [h1]
        | succ j => simpa using ih (ls := m) h.2 j v (by simpa using hi)
theorem nar_b {z : Int} (h : z = 0 ∨ z = 1) : narrow .boolean (.int (i32 z)) = .int (i32 z) := by
  rcases h with rfl | rfl <;> rfl
theorem nat_mod_cast (z : Int) (h0 : 0 ≤ z) (h1 : z < 65536) : ((i32 z).toUInt32 % 65536).toInt32 = i32 z := by
  obtain ⟨n, rfl⟩ : ∃ n : Nat, z = (n : Int) := ⟨z.toNat, (Int.toNat_of_nonneg h0).symm⟩
  have hn : n < 65536 := by omega
  have e : (i32 (n : Int)).toUInt32 = UInt32.ofNat n := by
    apply UInt32.toNat_inj.mp
    show ((BitVec.ofInt 32 (n : Int))).toNat = (UInt32.ofNat n).toNat
    rw [BitVec.toNat_ofInt, UInt32.toNat_ofNat']
    omega
  rw [e]
  have e2 : UInt32.ofNat n % 65536 = UInt32.ofNat n := by
    apply UInt32.toNat_inj.mp
    rw [UInt32.toNat_mod, UInt32.toNat_ofNat']
    show n % 2 ^ 32 % 65536 = n % 2 ^ 32
    omega
  rw [e2]
  rw [← e]
  rfl
theorem nar_c {z : Int} (h0 : 0 ≤ z) (h1 : z < 65536) : narrow .char (.int (i32 z)) = .int (i32 z) := by
  show Value.int ((i32 z).toUInt32 % 65536).toInt32 = _
  rw [nat_mod_cast z h0 h1]
theorem nar_i {x : Int32} : narrow .int (.int x) = .int x := rfl
section MRULES2
variable {X : Cx} {σ : Hp} {m0 : Nat} {M : Mt} {d pc : Nat} {ls : List (Option Value)} {rest : List Value} {v : Vw} {o : Rs} {τ : Hp}
theorem Ev.fgt {ls' : List (Option Value)} {st : List Value} (h : lsub ls' ls) (k : Ev X M d pc ls' st σ o τ) : Ev X M d pc ls st σ o τ := k.forget (lsub.mono h)
theorem Ei.i2c {z : Int} (h0 : 0 ≤ z) (h1 : z < 65536) (d9 : decode M.cc pc = .ok (.i2c, 1)) (k : Ev X M d (pc + 1) ls (.int (i32 z) :: rest) σ o τ) : Ev X M d pc ls (.int (i32 z) :: rest) σ o τ := Ev.i2c d9 (nat_mod_cast z h0 h1) k
theorem Ex.icmp_ne {a b : Int} {off : Int} {tgt : Nat} (d9 : decode M.cc pc = .ok (.if_icmp .ne off, 3)) (ht : (pc : Int) + off = (tgt : Int)) (ha : R32 a) (hb : R32 b) (kf : a = b → Ev X M d (pc + 3) ls rest σ o τ) (kt : ¬ a = b → Ev X M d tgt ls rest σ o τ) : Ev X M d pc ls (.int (i32 b) :: .int (i32 a) :: rest) σ o τ := Ei.icmp_ne d9 ht ha hb kt (fun h => kf (Decidable.not_not.mp h))
theorem Ex.if_ne {a : Int} {off : Int} {tgt : Nat} (d9 : decode M.cc pc = .ok (.ifCond .ne off, 3)) (ht : (pc : Int) + off = (tgt : Int)) (ha : R32 a) (kf : a = 0 → Ev X M d (pc + 3) ls rest σ o τ) (kt : ¬ a = 0 → Ev X M d tgt ls rest σ o τ) : Ev X M d pc ls (.int (i32 a) :: rest) σ o τ := Ei.if_ne d9 ht ha kt (fun h => kf (Decidable.not_not.mp h))
end MRULES2
