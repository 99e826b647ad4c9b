/-! the class's search goes through all orders -/
theorem undo_ok {c : Cs} {i r : Int} {R P : List Int} (h12 : c.2.2.1 12 = P ++ [r]) (h11 : c.2.2.1 11 = R) (h0 : 0 ≤ i) (hi : i ≤ (R.length : Int)) (hl : R.length ≤ 199) : ok_X5_undoLast i r c ∧ g_X5_undoLast i r c = clst (clst c 12 P) 11 (insL R i.toNat r) := by
  have hlen : ((c.2.2.1 12).length : Int) = (P.length : Int) + 1 := by
    rw [h12, List.length_append, List.length_singleton]
    omega
  have hz : eb (c.2.2.1 12) = 0 := eb_0.mpr (by omega)
  have hr : remL (c.2.2.1 12) (((c.2.2.1 12).length : Int) - 1).toNat = P := by
    have : remL (P ++ r :: []) P.length = P ++ [] := remL_at
    rw [hlen, h12, show ((P.length : Int) + 1 - 1).toNat = P.length by omega, this, List.append_nil]
  have h11' : (clst c 12 P).2.2.1 11 = R := (clst_ne c (by decide)).trans h11
  unfold ok_X5_undoLast g_X5_undoLast
  rw [hr, h11', if_pos hz, if_pos hz, if_neg (show ¬ i < 0 by omega), if_neg (show ¬ i < 0 by omega), if_neg (show ¬ (R.length : Int) < i by omega), if_neg (show ¬ (R.length : Int) < i by omega)]
  exact ⟨⟨⟨by omega, by omega⟩, ⟨by omega, by omega⟩, by omega, ⟨h0, hi⟩, trivial⟩, rfl⟩
theorem ins_at {P Q : List Int} {x : Int} : insL (P ++ Q) P.length x = P ++ x :: Q := by
  induction P with
  | nil => cases Q <;> rfl
  | cons p P ih =>
    show p :: insL (P ++ Q) P.length x = p :: (P ++ x :: Q)
    rw [ih]
theorem ins_rem {L : List Int} {i : Int} (h0 : 0 ≤ i) (h1 : i < (L.length : Int)) : insL (remL L i.toNat) i.toNat (lget L i) = L := by
  obtain ⟨P, Q, e1, e2⟩ := split1 h0 h1
  have a : remL (P ++ lget L i :: Q) P.length = P ++ Q := remL_at
  have b : insL (P ++ Q) P.length (lget L i) = P ++ lget L i :: Q := ins_at
  rw [← e1] at a b
  rw [show i.toNat = P.length by omega, a]
  exact b
def Acc (c : Cs) : Int × List Int := (c.2.1 8 4 0, c.2.2.1 10)
/-- what a search from here on does -/
def SrOK (v : Vw) (V : List Int → Int) (S : Int → Int → Cs → Cs) (O : Int → Int → Cs → Prop) (k : Nat) : Prop :=
  ∀ (h u : Int) (c : Cs) (M : Int), INV c v → 1 ≤ (c.1 10).toNat → (c.2.2.1 11).length = k → 0 ≤ h → h + (k : Int) ≤ 6 → ((c.2.2.1 12).length : Int) = h → (∀ x ∈ c.2.2.1 11, 0 ≤ x ∧ x < v 1 0) → Sb (c.1 10).toNat M (cfs c) → M + 17 * (k : Int) ≤ 1000000 → (0 ≤ u ∧ u ≤ 2000000) → (0 ≤ c.2.1 8 4 0 ∧ c.2.1 8 4 0 ≤ 2000001) → (∀ p, V (c.2.2.1 12 ++ p) = fcu (c.1 10).toNat (v 13) (v 12) p (cfs c) u) →
    O h u c ∧ (FX c (S h u c) ∧ (S h u c).2.2.1 11 = c.2.2.1 11 ∧ (S h u c).2.2.1 12 = c.2.2.1 12 ∧ cfs (S h u c) = cfs c) ∧ Acc (S h u c) = ((lp k (c.2.2.1 11)).map (fun p => c.2.2.1 12 ++ p)).foldl (bst V) (Acc c)
def sC1 (i : Int) (c : Cs) : Cs := clst (clst c 11 (remL (c.2.2.1 11) i.toNat)) 12 ((clst c 11 (remL (c.2.2.1 11) i.toNat)).2.2.1 12 ++ [lget (c.2.2.1 11) i])
def sPl (q i : Int) (c : Cs) : Int × Cs := g_X7_plan q (lget (c.2.2.1 11) i) (sC1 i c)
def sGo (S : Int → Int → Cs → Cs) (h u q i : Int) (c : Cs) : Cs := S (h + 1) (if u < (sPl q i c).1 then (sPl q i c).1 else u) (sPl q i c).2
def sBd (S : Int → Int → Cs → Cs) (h u q f t i : Int) (c : Cs) : Cs := cput (cput (g_X5_undoLast i (lget (c.2.2.1 11) i) (sGo S h u q i c)) 10 1 q f) 10 2 q t
theorem put_back (c : Cs) (s : Fs) (q x y j : Int) (hc : cfs c = (stf s.1 q x, stf s.2 q y)) : (cput (cput c 10 1 q (s.1 q)) 10 2 q (s.2 q)).2.1 10 1 j = s.1 j ∧ (cput (cput c 10 1 q (s.1 q)) 10 2 q (s.2 q)).2.1 10 2 j = s.2 j := by
  have h1 : c.2.1 10 1 = stf s.1 q x := congrArg Prod.fst hc
  have h2 : c.2.1 10 2 = stf s.2 q y := congrArg Prod.snd hc
  have e1 := congrFun h1 j
  have e2 := congrFun h2 j
  unfold stf at e1 e2
  by_cases e : j = q
  · subst e
    exact ⟨(cput_k (cput c 10 1 j (s.1 j)) (ci := 10) (k := 2) (i := j) (x := s.2 j) (a := 10) (b := 1) (j := j) (by decide)).trans (cput_eq c 10 1 j (s.1 j)), cput_eq (cput c 10 1 j (s.1 j)) 10 2 j (s.2 j)⟩
  · rw [if_neg e] at e1 e2
    exact ⟨((cput_i (cput c 10 1 q (s.1 q)) e).trans (cput_i c e)).trans e1, ((cput_i (cput c 10 1 q (s.1 q)) e).trans (cput_i c e)).trans e2⟩
theorem bst_nn {V : List Int → Int} {X : List (List Int)} {a : Int × List Int} (h : ∀ p ∈ X, 0 ≤ V p) (h0 : 0 ≤ a.1) : 0 ≤ (X.foldl (bst V) a).1 := by
  rcases bst_mem (val := V) (X := X) (a := a) with e | ⟨e1, e2⟩
  · rw [e]
    exact h0
  · rw [e2]
    exact h _ e1
theorem body_ok {v : Vw} {T E : Int} {V : List Int → Int} {S : Int → Int → Cs → Cs} {O : Int → Int → Cs → Prop} {k : Nat} (hI : IM v T E) (hS : SrOK v V S O k) {h u i M : Int} {c : Cs} (hN : INV c v) (hK : 1 ≤ (c.1 10).toNat) (hl : (c.2.2.1 11).length = k + 1) (h0 : 0 ≤ h) (h6 : h + (k : Int) + 1 ≤ 6) (hp : ((c.2.2.1 12).length : Int) = h) (hx : ∀ x ∈ c.2.2.1 11, 0 ≤ x ∧ x < v 1 0) (hB : Sb (c.1 10).toNat M (cfs c)) (hM : M + 17 * ((k : Int) + 1) ≤ 1000000) (hu : 0 ≤ u ∧ u ≤ 2000000) (hb : 0 ≤ c.2.1 8 4 0 ∧ c.2.1 8 4 0 ≤ 2000001) (hV : ∀ p, V (c.2.2.1 12 ++ p) = fcu (c.1 10).toNat (v 13) (v 12) p (cfs c) u) (i0 : 0 ≤ i) (i1 : i < (k : Int) + 1) :
    ((((clst c 11 (remL (c.2.2.1 11) i.toNat)).2.2.1 12).length : Int) ≤ 199 ∧ ok_X7_plan (pk (c.2.1 10 1) (c.1 10).toNat) (lget (c.2.2.1 11) i) (sC1 i c) ∧ R32 u ∧ R32 (sPl (pk (c.2.1 10 1) (c.1 10).toNat) i c).1 ∧ O (h + 1) (if u < (sPl (pk (c.2.1 10 1) (c.1 10).toNat) i c).1 then (sPl (pk (c.2.1 10 1) (c.1 10).toNat) i c).1 else u) (sPl (pk (c.2.1 10 1) (c.1 10).toNat) i c).2 ∧ ok_X5_undoLast i (lget (c.2.2.1 11) i) (sGo S h u (pk (c.2.1 10 1) (c.1 10).toNat) i c)) ∧
    ∃ C, sBd S h u (pk (c.2.1 10 1) (c.1 10).toNat) ((cfs c).1 (pk (c.2.1 10 1) (c.1 10).toNat)) ((cfs c).2 (pk (c.2.1 10 1) (c.1 10).toNat)) i c = C ∧ (FX c C ∧ C.2.2.1 11 = c.2.2.1 11 ∧ C.2.2.1 12 = c.2.2.1 12 ∧ cfs C = cfs c) ∧ Acc C = (((lp k (remL (c.2.2.1 11) i.toNat)).map (fun p => lget (c.2.2.1 11) i :: p)).map (fun p => c.2.2.1 12 ++ p)).foldl (bst V) (Acc c) := by
  have hil : i < ((c.2.2.1 11).length : Int) := by omega
  have hr := hx _ (lget_mem i0 hil)
  have e12 : (clst c 11 (remL (c.2.2.1 11) i.toNat)).2.2.1 12 = c.2.2.1 12 := clst_ne c (by decide)
  have g12 : (sC1 i c).2.2.1 12 = c.2.2.1 12 ++ [lget (c.2.2.1 11) i] := by
    unfold sC1
    rw [clst_eq, e12]
  have g11 : (sC1 i c).2.2.1 11 = remL (c.2.2.1 11) i.toNat := by
    unfold sC1
    rw [clst_ne _ (by decide), clst_eq]
  have g10 : (sC1 i c).2.2.1 10 = c.2.2.1 10 := by
    unfold sC1
    rw [clst_ne _ (by decide), clst_ne _ (by decide)]
  have fx1 : FX c (sC1 i c) := (FX.lst (by decide)).trans (FX.lst (by decide))
  have N1 : INV (sC1 i c) v := hN.fx fx1
  have hpk := pk_pos (f := c.2.1 10 1) hK
  obtain ⟨p1, p2, p3, p4⟩ := plan_ok (c := sC1 i c) N1 hI (M := M) hB hK hr.1 hr.2
  have hfe := hB.fe1 (r := lget (c.2.2.1 11) i) hK hI.db
  have e2 : (sPl (pk (c.2.1 10 1) (c.1 10).toNat) i c).1 = fe (c.1 10).toNat (v 13) (v 12) (cfs c) (lget (c.2.2.1 11) i) := p2
  have p3' : FP (sC1 i c) (sPl (pk (c.2.1 10 1) (c.1 10).toNat) i c).2 := p3
  have p4' : cfs (sPl (pk (c.2.1 10 1) (c.1 10).toNat) i c).2 = fnx (c.1 10).toNat (v 13) (v 12) (cfs c) (lget (c.2.2.1 11) i) := p4
  unfold sBd sGo
  revert p3' p4'
  rw [e2]
  generalize (sPl (pk (c.2.1 10 1) (c.1 10).toNat) i c).2 = c2
  intro p3' p4'
  have ec : c2.1 10 = c.1 10 := congrFun p3'.1 10
  have l11 : c2.2.2.1 11 = remL (c.2.2.1 11) i.toNat := by rw [p3'.2.2.2, g11]
  have l12 : c2.2.2.1 12 = c.2.2.1 12 ++ [lget (c.2.2.1 11) i] := by rw [p3'.2.2.2, g12]
  have l10 : c2.2.2.1 10 = c.2.2.1 10 := by rw [p3'.2.2.2, g10]
  have b8 : c2.2.1 8 4 0 = c.2.1 8 4 0 := by rw [p3'.2.1 8 (by decide)]; rfl
  have hrl : (remL (c.2.2.1 11) i.toNat).length = k := by
    have := remL_ln (L := c.2.2.1 11) (i := i.toNat) (by omega)
    omega
  have hmx : (if u < fe (c.1 10).toNat (v 13) (v 12) (cfs c) (lget (c.2.2.1 11) i) then fe (c.1 10).toNat (v 13) (v 12) (cfs c) (lget (c.2.2.1 11) i) else u) = mx u (fe (c.1 10).toNat (v 13) (v 12) (cfs c) (lget (c.2.2.1 11) i)) := rfl
  rw [hmx]
  have hmr : 0 ≤ mx u (fe (c.1 10).toNat (v 13) (v 12) (cfs c) (lget (c.2.2.1 11) i)) ∧ mx u (fe (c.1 10).toNat (v 13) (v 12) (cfs c) (lget (c.2.2.1 11) i)) ≤ 2000000 := by
    unfold mx
    split <;> omega
  have q := hS (h + 1) (mx u (fe (c.1 10).toNat (v 13) (v 12) (cfs c) (lget (c.2.2.1 11) i))) c2 (M + 17) (N1.fx p3'.fx) (by rw [ec]; exact hK) (by rw [l11]; exact hrl) (by omega) (by omega) (by rw [l12, List.length_append, List.length_singleton]; omega) (by rw [l11]; exact fun x m => hx x (mem_rem m)) (by rw [ec, p4']; exact hB.nx1 hK hI.db) (by omega) hmr (by rw [b8]; exact hb) (fun p => by
    rw [l12, ec, p4', List.append_assoc]
    exact hV (lget (c.2.2.1 11) i :: p))
  rw [l11, l12, p4'] at q
  revert q
  generalize S (h + 1) (mx u (fe (c.1 10).toNat (v 13) (v 12) (cfs c) (lget (c.2.2.1 11) i))) c2 = c3
  intro q
  obtain ⟨q1, ⟨q2, q3, q4, q5⟩, q6⟩ := q
  obtain ⟨u1, u2⟩ := undo_ok (i := i) q4 q3 i0 (by rw [hrl]; omega) (by omega)
  rw [ins_rem i0 hil] at u2
  refine ⟨⟨by rw [e12]; omega, p1, ⟨by omega, by omega⟩, ⟨by omega, by omega⟩, q1, u1⟩, _, rfl, ?_⟩
  rw [u2]
  have q5' : cfs (clst (clst c3 12 (c.2.2.1 12)) 11 (c.2.2.1 11)) = (stf (cfs c).1 (pk (c.2.1 10 1) (c.1 10).toNat) (fe (c.1 10).toNat (v 13) (v 12) (cfs c) (lget (c.2.2.1 11) i) + 2), stf (cfs c).2 (pk (c.2.1 10 1) (c.1 10).toNat) (v 12 (lget (c.2.2.1 11) i))) := q5
  have pb := fun j => put_back (clst (clst c3 12 (c.2.2.1 12)) 11 (c.2.2.1 11)) (cfs c) _ _ _ j q5'
  refine ⟨⟨?_, ?_, ?_, ?_⟩, ?_⟩
  · exact ((((fx1.trans p3'.fx).trans q2).trans ((FX.lst (by decide)).trans (FX.lst (by decide)))).trans ((FX.put (Or.inl rfl)).trans (FX.put (Or.inr rfl))))
  · exact clst_eq _ _ _
  · show (clst (clst c3 12 (c.2.2.1 12)) 11 (c.2.2.1 11)).2.2.1 12 = _
    rw [clst_ne _ (by decide), clst_eq]
  · exact Prod.ext (funext fun j => (pb j).1) (funext fun j => (pb j).2)
  · have ea : Acc (cput (cput (clst (clst c3 12 (c.2.2.1 12)) 11 (c.2.2.1 11)) 10 1 (pk (c.2.1 10 1) (c.1 10).toNat) ((cfs c).1 (pk (c.2.1 10 1) (c.1 10).toNat))) 10 2 (pk (c.2.1 10 1) (c.1 10).toNat) ((cfs c).2 (pk (c.2.1 10 1) (c.1 10).toNat))) = Acc c3 := by
      unfold Acc
      refine Prod.ext rfl ?_
      show (clst (clst c3 12 (c.2.2.1 12)) 11 (c.2.2.1 11)).2.2.1 10 = c3.2.2.1 10
      rw [clst_ne _ (by decide), clst_ne _ (by decide)]
    rw [ea, q6, List.map_map]
    have eb2 : Acc c2 = Acc c := Prod.ext b8 l10
    rw [eb2]
    congr 1
    refine List.map_congr_left (fun p _ => ?_)
    show c.2.2.1 12 ++ [lget (c.2.2.1 11) i] ++ p = c.2.2.1 12 ++ (lget (c.2.2.1 11) i :: p)
    rw [List.append_assoc]
    rfl
