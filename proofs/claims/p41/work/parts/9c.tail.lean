/-! the law: the end of a round (written by wip/p41/mk9c.py) -/
theorem lg_self (x : Int64) : lg_cmp x x = i32 0 := by
  unfold lg_cmp
  simp
  try decide
theorem CI.h34 {v : Vw} (h : CI v) : ∀ o, v 6 0 ≤ o → v 34 o = 0 := fun o ho => (h.2.2.2.2.2 o ho).2
theorem q_tail {X : Cx} {h un it : Nat} {v v0 : Vw} {T E re ve cr mo k r y x t : Int} {u tk : Int → Int} {n m n0 m0 : Nat} (hN : KN X) (hL : LI v T E re ve cr mo u tk) (hr : 0 ≤ r ∧ r < 110) (ht : R32 t) (hF : t < 0 → Fl v0 v)
    (h1 : r % 7 < 6 → n0 = n ∧ m0 = m) (h2 : 6 ≤ r % 7 → n0 = n + 1 ∧ m0 = m + 20)
    (K : Go X h 202 (lsH X h un it re ve cr mo (k + 4) (r + 1)) (v, (y, x + 306 + (if r % 7 < 6 then 0 else 3500)), (n, m), Rz un it u tk)) :
    Go X h 877 (lsT X h un it re ve cr mo k r (Sm9 v0) t) (v, (y, x), (n0, m0), Rz un it u tk) := by
  refine Go.inv (fun hV => ?_)
  obtain ⟨c9, hV⟩ := hV
  have hV : INV c9 v := hV
  have h34 := CI.h34 hV.2.2.1
  obtain ⟨hI, hA, hD, ⟨e1, e2, e3⟩, hc, htk, hu⟩ := hL
  subst e1
  subst e2
  obtain ⟨w', q9, kk⟩ := K
  refine ⟨w', q9, ?_⟩
  have F1 : ∀ (ls : List (Option Value)), lsub (lsH X h un it (v 1 0) (v 2 0) cr mo (k + 4) r) ls → Wv X h m_L_law 40 927 ls [] (v, (y, x + 306), (n0, m0), Rz un it u tk) (.inl (some (.int (i32 1)))) w' := fun ls q => by
    refine Wv.fgt q ?_
    unfold lsH
    by_cases c : r % 7 < 6
    · obtain ⟨rfl, rfl⟩ := h1 c
      rw [if_pos c] at kk
      refine Wv.iload dL_law_927 rfl ?_
      refine Wv.iload dL_law_929 rfl ?_
      refine Wv.bipush (v := i32 7) dL_law_931 (by decide) ?_
      refine Wi.rem (by omega) ⟨by omega, by omega⟩ (by omega) ⟨by omega, by omega⟩ dL_law_933 ?_
      refine Wv.bipush (v := i32 6) dL_law_934 (by decide) ?_
      refine Wi.icmp_lt_t (tgt := 956) dL_law_936 (by decide) ⟨by omega, by omega⟩ ⟨by omega, by omega⟩ (by omega) ?_
      refine Wi.const dL_law_956 ?_
      refine Wv.goto (tgt := 961) dL_law_957 (by decide) ?_
      refine Wi.and1 dL_law_961 ?_
      refine Wv.istore dL_law_962 (by decide) rfl ?_
      refine Wi.inc dL_law_964 rfl (by decide) rfl ?_
      refine Wv.goto (tgt := 202) dL_law_967 (by decide) ?_
      exact Wv.more (Int.le_refl _) (by omega) kk
    · obtain ⟨rfl, rfl⟩ := h2 (by omega)
      rw [if_neg c] at kk
      refine Wv.more (y' := y) (x' := x + 306) (Int.le_refl _) (Int.le_refl _) ?_
      refine Wv.iload dL_law_927 rfl ?_
      refine Wv.iload dL_law_929 rfl ?_
      refine Wv.bipush (v := i32 7) dL_law_931 (by decide) ?_
      refine Wi.rem (by omega) ⟨by omega, by omega⟩ (by omega) ⟨by omega, by omega⟩ dL_law_933 ?_
      refine Wv.bipush (v := i32 6) dL_law_934 (by decide) ?_
      refine Wi.icmp_lt_f (tgt := 956) dL_law_936 (by decide) ⟨by omega, by omega⟩ ⟨by omega, by omega⟩ (by omega) ?_
      refine Wv.aload_n (i := 1) dL_law_939 rfl rfl ?_
      refine Wv.iload_n (i := 2) dL_law_940 rfl rfl ?_
      refine Wv.callS (As := [_, _]) (v := some _) k_L_areStocks (tb6 (i := 147) rfl) ki_L_areStocks dL_law_941 rfl rfl (Nat.le_of_ble_eq_true rfl) (Nat.le_of_ble_eq_true rfl) (a_areStocks hN hI) ?_
      refine Wi.if_eq_f (tgt := 960) dL_law_944 (by decide) ⟨by omega, by omega⟩ (by omega) ?_
      refine Wv.aload_n (i := 1) dL_law_947 rfl rfl ?_
      refine Wv.aload dL_law_948 rfl ?_
      refine Wv.callS (As := [_, _]) (v := some _) k_L_areDelivered (tb6 (i := 183) rfl) ki_L_areDelivered dL_law_950 rfl rfl (Nat.le_of_ble_eq_true rfl) (Nat.le_of_ble_eq_true rfl) (a_areDelivered hN hI hD hu h34) ?_
      refine Wi.if_eq_f (tgt := 960) dL_law_953 (by decide) ⟨by omega, by omega⟩ (by omega) ?_
      refine Wi.const dL_law_956 ?_
      refine Wv.goto (tgt := 961) dL_law_957 (by decide) ?_
      refine Wi.and1 dL_law_961 ?_
      refine Wv.istore dL_law_962 (by decide) rfl ?_
      refine Wi.inc dL_law_964 rfl (by decide) rfl ?_
      refine Wv.goto (tgt := 202) dL_law_967 (by decide) ?_
      exact Wv.more (Int.le_refl _) (by omega) kk
  have F2 : ∀ (ls : List (Option Value)), lsub (lsH X h un it (v 1 0) (v 2 0) cr mo (k + 4) r) ls → Wv X h m_L_law 40 898 ls [.int (i32 1)] (v, (y, x + 94), (n0, m0), Rz un it u tk) (.inl (some (.int (i32 1)))) w' := fun ls q => by
    refine Wv.fgt q ?_
    unfold lsH
    refine Wv.aload_n (i := 1) dL_law_898 rfl rfl ?_
    refine Wv.iload_n (i := 3) dL_law_899 rfl rfl ?_
    refine Wv.aload dL_law_900 rfl ?_
    refine Wv.iload dL_law_902 rfl ?_
    refine Wv.callS (As := [_, _, _, _]) (v := some _) k_L_areVessels (tb6 (i := 126) rfl) ki_L_areVessels dL_law_904 rfl rfl (Nat.le_of_ble_eq_true rfl) (Nat.le_of_ble_eq_true rfl) (a_areVessels hN hI hA ⟨by omega, by omega⟩ htk) ?_
    refine Wi.if_eq_f (tgt := 923) dL_law_907 (by decide) ⟨by omega, by omega⟩ (by omega) ?_
    refine Wv.aload_n (i := 1) dL_law_910 rfl rfl ?_
    refine Wv.aload dL_law_911 rfl ?_
    refine Wv.callS (As := [_, _]) (v := some _) k_L_areBrews (tb6 (i := 137) rfl) ki_L_areBrews dL_law_913 rfl rfl (Nat.le_of_ble_eq_true rfl) (Nat.le_of_ble_eq_true rfl) (a_areBrews hN hI hA htk) ?_
    refine Wi.if_eq_f (tgt := 923) dL_law_916 (by decide) ⟨by omega, by omega⟩ (by omega) ?_
    refine Wi.const dL_law_919 ?_
    refine Wv.goto (tgt := 924) dL_law_920 (by decide) ?_
    refine Wi.and1 dL_law_924 ?_
    refine Wv.istore dL_law_925 (by decide) rfl ?_
    exact Wv.more (Int.le_refl _) (by omega) (F1 _ ⟨rfl, rfl, rfl, rfl, rfl, rfl, rfl, rfl, rfl, rfl, rfl, trivial⟩)
  unfold lsT
  by_cases c : 0 ≤ t
  · refine Wi.inc dL_law_877 rfl (by decide) rfl ?_
    refine Wv.iload dL_law_880 rfl ?_
    refine Wv.iload dL_law_882 rfl ?_
    refine Wi.if_ge_t (tgt := 898) dL_law_884 (by decide) ht c ?_
    exact Wv.more (Int.le_refl _) (by omega) (F2 _ ⟨rfl, rfl, rfl, rfl, rfl, rfl, rfl, rfl, rfl, rfl, rfl, trivial⟩)
  · refine Wi.inc dL_law_877 rfl (by decide) rfl ?_
    refine Wv.iload dL_law_880 rfl ?_
    refine Wv.iload dL_law_882 rfl ?_
    refine Wi.if_ge_f (tgt := 898) dL_law_884 (by decide) ht c ?_
    refine Wv.aload_n (i := 1) dL_law_887 rfl rfl ?_
    refine Wv.iload_n (i := 3) dL_law_888 rfl rfl ?_
    refine Wv.callS (As := [_, _]) (v := some _) k_L_sum (tb6 (i := 97) rfl) ki_L_sum dL_law_889 rfl rfl (Nat.le_of_ble_eq_true rfl) (Nat.le_of_ble_eq_true rfl) (a_sum hN hI) ?_
    refine Wv.lload dL_law_892 rfl ?_
    refine Wv.lcmp dL_law_894 ?_
    rw [Fl.sm (hF (by omega)), lg_self]
    refine Wi.if_ne_f (tgt := 923) dL_law_895 (by decide) ⟨by omega, by omega⟩ (by omega) ?_
    exact F2 _ ⟨rfl, rfl, rfl, rfl, rfl, rfl, rfl, rfl, rfl, rfl, rfl, trivial⟩
/-- the law's last checks -/
theorem q_last {X : Cx} {h un it : Nat} {v : Vw} {T E re ve cr mo k r y x : Int} {u tk : Int → Int} {n m : Nat} (hN : KN X) (hL : LI v T E re ve cr mo u tk) (hr : 110 ≤ r ∧ r ≤ 200) (hy : y ≤ 1000) (hx : x + 3500 ≤ 130000) :
    Go X h 202 (lsH X h un it re ve cr mo k r) (v, (y, x), (n + 1, m + 20), Rz un it u tk) := by
  refine Go.inv (fun hV => ?_)
  obtain ⟨c9, hV⟩ := hV
  have hV : INV c9 v := hV
  have h34 := CI.h34 hV.2.2.1
  obtain ⟨hI, hA, hD, ⟨e1, e2, e3⟩, hc, htk, hu⟩ := hL
  subst e1
  subst e2
  refine ⟨(v, (y, x + 2400 + 1100), (n, m), Rz un it u tk), ⟨hy, by show x + 2400 + 1100 ≤ 130000; omega, T, E, hI⟩, ?_⟩
  unfold lsH
  refine Wv.iload dL_law_202 rfl ?_
  refine Wv.bipush (v := i32 110) dL_law_204 (by decide) ?_
  refine Wi.icmp_ge_t (tgt := 970) dL_law_206 (by decide) ⟨by omega, by omega⟩ ⟨by omega, by omega⟩ (by omega) ?_
  refine Wv.iload dL_law_970 rfl ?_
  refine Wi.if_eq_f (tgt := 996) dL_law_972 (by decide) ⟨by omega, by omega⟩ (by omega) ?_
  refine Wv.aload_n (i := 1) dL_law_975 rfl rfl ?_
  refine Wv.iload_n (i := 2) dL_law_976 rfl rfl ?_
  refine Wv.callS (As := [_, _]) (v := some _) k_L_areStocks (tb6 (i := 147) rfl) ki_L_areStocks dL_law_977 rfl rfl (Nat.le_of_ble_eq_true rfl) (Nat.le_of_ble_eq_true rfl) (a_areStocks hN hI) ?_
  refine Wi.if_eq_f (tgt := 996) dL_law_980 (by decide) ⟨by omega, by omega⟩ (by omega) ?_
  refine Wv.aload_n (i := 1) dL_law_983 rfl rfl ?_
  refine Wv.aload dL_law_984 rfl ?_
  refine Wv.callS (As := [_, _]) (v := some _) k_L_areDelivered (tb6 (i := 183) rfl) ki_L_areDelivered dL_law_986 rfl rfl (Nat.le_of_ble_eq_true rfl) (Nat.le_of_ble_eq_true rfl) (a_areDelivered hN hI hD hu h34) ?_
  refine Wi.if_eq_f (tgt := 996) dL_law_989 (by decide) ⟨by omega, by omega⟩ (by omega) ?_
  refine Wi.const dL_law_992 ?_
  refine Wv.goto (tgt := 997) dL_law_993 (by decide) ?_
  exact Wv.iret rfl nar_t dL_law_997
