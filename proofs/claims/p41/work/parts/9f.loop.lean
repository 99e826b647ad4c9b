/-! the law: its rounds (written by wip/p41/mk9f.py) -/
theorem q_case {X : Cx} {h un it : Nat} {v : Vw} {T E re ve cr mo k r y x a b n9 kd : Int} {u tk : Int → Int} {n m : Nat} (hN : KN X) (hL : LI v T E re ve cr mo u tk) (hT : T + 31 ≤ 20000) (hE : E + 102300 ≤ 1000000000) (ha : 0 ≤ a ∧ a ≤ 4) (hb : 0 ≤ b ∧ b ≤ 8) (hn : 0 ≤ n9 ∧ n9 < 1000) (hk : 0 ≤ kd ∧ kd < 28)
    (K : ∀ (v2 : Vw) (cr2 mo2 t : Int) (u2 : Int → Int), LI v2 (T + 31) (E + 102300) re ve cr2 mo2 u2 tk → R32 t → (t < 0 → Fl v v2) → Go X h 877 (lsT X h un it re ve cr2 mo2 k r (Sm9 v) t) (v2, (y + 6, x + 66), (n, m), Rz un it u2 tk)) :
    Go X h 310 (lsD X h un it re ve cr mo k r (Sm9 v) a b n9 kd (n9 % 20)) (v, (y, x), (n, m), Rz un it u tk) := by
  by_cases c0 : kd = 0
  · exact q_setCrews hN hL hT hE ha hb hn c0 K
  by_cases c1 : kd < 3
  · exact q_addPacks hN hL hT hE ha hb hn ⟨by omega, c1⟩ K
  by_cases c2 : kd < 8
  · exact q_brew hN hL hT hE ha hb hn ⟨by omega, c2⟩ K
  by_cases c3 : kd < 11
  · exact q_enqueue hN hL hT hE ha hb hn ⟨by omega, c3⟩ K
  by_cases c4 : kd = 11
  · exact q_withdraw hN hL hT hE ha hb hn c4 K
  by_cases c5 : kd = 12
  · exact q_improve hN hL hT hE ha hb hn c5 K
  by_cases c6 : kd < 16
  · exact q_order hN hL hT hE ha hb hn ⟨by omega, c6⟩ K
  by_cases c7 : kd < 18
  · exact q_blend hN hL hT hE ha hb hn ⟨by omega, c7⟩ K
  by_cases c8 : kd = 18
  · exact q_cancel hN hL hT hE ha hb hn c8 K
  exact q_pass hN hL hT hE ha hb hn ⟨by omega, hk.2⟩ K
theorem q_loop {X : Cx} {h un it : Nat} {re ve : Int} {tk : Int → Int} (hN : KN X) (hs : X.sL ≤ 2048) (h1 : 1 ≤ re ∧ re ≤ 4) (h2 : 1 ≤ ve ∧ ve ≤ 8) : ∀ (N : Nat) (r k y x : Int) (v : Vw) (T E cr mo : Int) (u : Int → Int) (b : Nat), LI v T E re ve cr mo u tk → 0 ≤ r → r + (N : Int) = 110 → 0 ≤ k → k + 4 * (N : Int) ≤ 4000 → T + 31 * (N : Int) ≤ 20000 → E + 102300 * (N : Int) ≤ 1000000000 → y + 6 * (N : Int) ≤ 1000 → (b : Int) = 16 - r / 7 → x + 470 * (N : Int) + 3500 * (b : Int) ≤ 130000 →
    Go X h 202 (lsH X h un it re ve cr mo k r) (v, (y, x), (b, 20 * b), Rz un it u tk) := by
  intro N
  induction N with
  | zero =>
    intro r k y x v T E cr mo u b hL r0 rN k0 kN hT hE hy hb hx
    have hb1 : b = 0 + 1 := by omega
    subst hb1
    exact q_last (n := 0) (m := 0) hN hL ⟨by omega, by omega⟩ (by omega) (by omega)
  | succ N ih =>
    intro r k y x v T E cr mo u b hL r0 rN k0 kN hT hE hy hb hx
    refine q_head hN hs hL ⟨k0, by omega⟩ ⟨r0, by omega⟩ h1 h2 (fun a b9 n9 kd ha hb9 hn hkd => ?_)
    refine q_case hN hL (by omega) (by omega) ha hb9 hn hkd (fun v2 cr2 mo2 t u2 hL2 ht hF => ?_)
    obtain ⟨b1, hb1, z1, z2⟩ : ∃ b1 : Nat, (b1 : Int) = 16 - (r + 1) / 7 ∧ (r % 7 < 6 → b = b1) ∧ (6 ≤ r % 7 → b = b1 + 1) := ⟨(16 - (r + 1) / 7).toNat, by omega, fun _ => by omega, fun _ => by omega⟩
    refine q_tail (n := b1) (m := 20 * b1) hN hL2 ⟨r0, by omega⟩ ht hF (fun q => ⟨z1 q, by rw [z1 q]⟩) (fun q => ⟨z2 q, by rw [z2 q]; omega⟩) ?_
    exact ih (r + 1) (k + 4) (y + 6) _ v2 (T + 31) (E + 102300) cr2 mo2 u2 b1 hL2 (by omega) (by omega) (by omega) (by omega) (by omega) (by omega) (by omega) hb1 (by
      by_cases q : r % 7 < 6
      · rw [if_pos q]
        have := z1 q
        omega
      · rw [if_neg q]
        have := z2 (by omega)
        omega)
