/-! the room at the end -/
theorem sF_max {f : Int → Nat} {M : Nat} : ∀ n : Nat, (∀ i, 0 ≤ i → i < (n : Int) → f i ≤ M) → sF f n ≤ n * M := by
  intro n
  induction n with
  | zero => exact fun _ => Nat.zero_le _
  | succ n ih =>
    intro h
    have h1 := ih (fun i h0 h1 => h i h0 (by omega))
    have h2 := h (n : Int) (by omega) (by omega)
    show sF f n + f (n : Int) ≤ (n + 1) * M
    rw [Nat.succ_mul]
    omega
theorem room_ok {X : Cx} {σ : Hp} {A : Nat → Int → Nat} {c : Cs} {B : Int → Nat} {m0 oL oD : Nat} {v : Vw} {T E : Int} (hL : LW X σ A c B m0 oL oD v) (hV : INV c v) (hI : IM v T E) (h6 : c.1 6 ≤ 1000) (hx : c.2.2.2 ≤ 1000) : σ.cl ≤ 20000 ∧ σ.sl ≤ 6200000 := by
  obtain ⟨⟨hC, hF⟩, _⟩ := hL
  have ll := hC.2.2.2.2.2.1
  have rm := hC.2.2.2.2.2.2.2.2
  have s0 := hV.1.c0
  have b10 := slots_le hV hI
  have u1 : 0 ≤ v 1 0 ∧ v 1 0 ≤ 5 := hI.2 1 0
  have u2 : 0 ≤ v 2 0 ∧ v 2 0 ≤ 8 := hI.2 2 0
  have u4 : 0 ≤ v 4 0 ∧ v 4 0 ≤ 60 := hI.2 4 0
  have u5 : 0 ≤ v 5 0 ∧ v 5 0 ≤ 30 := hI.2 5 0
  have u6 : 0 ≤ v 6 0 ∧ v 6 0 ≤ 20 := hI.2 6 0
  have u9 : 0 ≤ v 9 0 ∧ v 9 0 ≤ 127 := hI.2 9 0
  have k2 : c.1 2 = 17 + v 6 0 := s0.1.2.2.2.2.2
  have cp : ∀ i, 0 ≤ i → i < ((c.1 2).toNat : Int) → cap X σ (B i) ≤ 400 := fun i i0 i1 => by
    unfold cap
    split
    · exact Nat.zero_le _
    · rename_i hne
      rcases (ll i i0 (by omega)).1.2.2.2.2.2 with e | e
      · exact absurd e.1 hne
      · exact e.2.2.2.1
  have m1 := sF_max (f := fun l => cap X σ (B l)) (c.1 2).toNat cp
  have m2 := sF_max (f := fun l => cap X σ (B l) * cap X σ (B l)) (M := 160000) (c.1 2).toNat (fun i i0 i1 => Nat.mul_le_mul (cp i i0 i1) (cp i i0 i1))
  have n37 : (c.1 2).toNat ≤ 37 := by omega
  have m1' : sF (fun l => cap X σ (B l)) (c.1 2).toNat ≤ 14800 := Nat.le_trans m1 (Nat.le_trans (Nat.mul_le_mul n37 (Nat.le_refl 400)) (by decide))
  have m2' : sF (fun l => cap X σ (B l) * cap X σ (B l)) (c.1 2).toNat ≤ 5920000 := Nat.le_trans m2 (Nat.le_trans (Nat.mul_le_mul n37 (Nat.le_refl 160000)) (by decide))
  obtain ⟨r1, r2, r3⟩ := rm
  have q1 := s0.1.1
  have q2 := s0.1.2.1
  have q3 := s0.1.2.2.1
  have q4 := s0.1.2.2.2.1
  have q5 := s0.1.2.2.2.2.1
  have q7 := s0.2.1.2.1.2
  have f13 := hF.1.2.1
  have f8 := hF.1.2.2.1
  have f12 := hF.1.2.2.2.1
  have hs : sN c ≤ 1400 := by
    unfold sN
    omega
  constructor
  · omega
  · omega
