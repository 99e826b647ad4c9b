/-! the reference: filling orders, harvest, the queue, a day (written by wip/whole/mk19.py) -/
def l_draws_6 (o r : Int) : Nat → Int → Int → Vw → Vw
  | 0, left, b, v => v
  | n + 1, left, b, v =>
    if (v 5 0) ≤ b then
      v
    else
      if left ≤ 0 then
        v
      else
        if (v 28 b) = 3 then
          if (v 26 b) = r then
            if left ≤ (v 31 b) then
              if (((v 31 b) - left)) = 0 then
                (l_draws_6 o r n (left - left) (b + 1) (f_dirties (v 29 b) (upv (upv (upv (upv (upv (upv v 31 b ((v 31 b) - left)) 44 (v 9 0) b) 45 (v 9 0) o) 46 (v 9 0) left) 9 0 ((v 9 0) + 1)) 28 b 4)))
              else
                (l_draws_6 o r n (left - left) (b + 1) (upv (upv (upv (upv (upv v 31 b ((v 31 b) - left)) 44 (v 9 0) b) 45 (v 9 0) o) 46 (v 9 0) left) 9 0 ((v 9 0) + 1)))
            else
              if (((v 31 b) - (v 31 b))) = 0 then
                (l_draws_6 o r n (left - (v 31 b)) (b + 1) (f_dirties (v 29 b) (upv (upv (upv (upv (upv (upv v 31 b ((v 31 b) - (v 31 b))) 44 (v 9 0) b) 45 (v 9 0) o) 46 (v 9 0) (v 31 b)) 9 0 ((v 9 0) + 1)) 28 b 4)))
              else
                (l_draws_6 o r n (left - (v 31 b)) (b + 1) (upv (upv (upv (upv (upv v 31 b ((v 31 b) - (v 31 b))) 44 (v 9 0) b) 45 (v 9 0) o) 46 (v 9 0) (v 31 b)) 9 0 ((v 9 0) + 1)))
          else
            (l_draws_6 o r n left (b + 1) v)
        else
          (l_draws_6 o r n left (b + 1) v)
theorem s_l_draws_6 {X : Cx} {σ : Hp} {m0 : Nat} {T : Int} {o : Int} {r : Int} (hG : GM σ m0) : ∀ (n : Nat) (left b : Int) (v : Vw) (E : Int) (hI : IM v T E) (hl : 0 ≤ left ∧ left ≤ 40) (hb : 0 ≤ b ∧ b ≤ 100) (hJ : 0 < left → v 9 0 + dl v ≤ 109) (hE : E + ((n : Nat) : Int) ≤ 1000000000) (ho : 0 ≤ o ∧ o ≤ 19) (hr : -2147483648 ≤ r ∧ r < 2147483648) (hm : (v 5 0 - b).toNat < n), Ev X m_X11_draws 2 6 [some (va_rf (some m0)), some (.int (i32 o)), some (.int (i32 r)), none, some (.int (i32 left)), some (.int (i32 b)), none] [] (Hm σ m0 v) (.inl none) (Hm σ m0 (l_draws_6 o r n left b v)) := by
  intro n
  induction n with
  | zero =>
    intro left b v E hI hl hb hJ hE ho hr hm
    exact absurd hm (Nat.not_lt_zero _)
  | succ n ih =>
    intro left b v E hI hl hb hJ hE ho hr hm
    have hT := hI.1
    have u5 : 0 ≤ v 5 0 ∧ v 5 0 ≤ 30 := hI.2 5 0
    have u9 : 0 ≤ v 9 0 ∧ v 9 0 ≤ 127 := hI.2 9 0
    refine Ev.iload dX11_draws_6 rfl ?_
    refine Ev.aload_n (i := 0) dX11_draws_8 rfl rfl ?_
    refine Ex.gS (k := 5) (v 5 0) rfl hG (by decide) (tb6 (i := 215) rfl) rfl rfl dX11_draws_9 ?_
    refine Ei.icmp_ge (tgt := 167) dX11_draws_12 (by decide) ⟨by omega, by omega⟩ ⟨by omega, by omega⟩ (fun c1 => ?_) (fun c1 => ?_)
    · exact Ev.vretE rfl dX11_draws_167 rfl (by first | rfl | (rw [l_draws_6, if_pos c1]; try rfl))
    · refine Ev.iload dX11_draws_15 rfl ?_
      refine Ei.if_le (tgt := 167) dX11_draws_17 (by decide) ⟨by omega, by omega⟩ (fun c2 => ?_) (fun c2 => ?_)
      · exact Ev.vretE rfl dX11_draws_167 rfl (by first | rfl | (rw [l_draws_6, if_neg c1, if_pos c2]; try rfl))
      · have hdn := dl_nn v
        refine Ev.aload_n (i := 0) dX11_draws_20 rfl rfl ?_
        refine Em.gA (k := 28) hG (by decide) (by decide) (tb6 (i := 238) rfl) rfl rfl dX11_draws_21 ?_
        refine Ev.iload dX11_draws_24 rfl ?_
        have q3 : 0 ≤ v 28 b ∧ v 28 b ≤ 4 := hI.2 28 b
        refine Ex.iald (k := 28) (v 28 b) rfl hG (by decide) (by decide) rfl (by omega) (by show _ < ((30 : Nat) : Int); omega) (by decide) dX11_draws_26 ?_
        refine Ei.const dX11_draws_27 ?_
        refine Ex.icmp_ne (tgt := 161) dX11_draws_28 (by decide) ⟨by omega, by omega⟩ ⟨by omega, by omega⟩ (fun c4 => ?_) (fun c4 => ?_)
        · refine Ev.aload_n (i := 0) dX11_draws_31 rfl rfl ?_
          refine Em.gA (k := 26) hG (by decide) (by decide) (tb6 (i := 236) rfl) rfl rfl dX11_draws_32 ?_
          refine Ev.iload dX11_draws_35 rfl ?_
          have q5 : 0 ≤ v 26 b ∧ v 26 b ≤ 4 := hI.2 26 b
          refine Ex.iald (k := 26) (v 26 b) rfl hG (by decide) (by decide) rfl (by omega) (by show _ < ((30 : Nat) : Int); omega) (by decide) dX11_draws_37 ?_
          refine Ev.iload_n (i := 2) dX11_draws_38 rfl rfl ?_
          refine Ei.icmp_eq (tgt := 45) dX11_draws_39 (by decide) ⟨by omega, by omega⟩ ⟨by omega, by omega⟩ (fun c6 => ?_) (fun c6 => ?_)
          · refine Ev.aload_n (i := 0) dX11_draws_45 rfl rfl ?_
            refine Em.gA (k := 31) hG (by decide) (by decide) (tb7 (i := 1) rfl) rfl rfl dX11_draws_46 ?_
            refine Ev.iload dX11_draws_49 rfl ?_
            have q7 : 0 ≤ v 31 b ∧ v 31 b ≤ 20 := hI.2 31 b
            refine Ex.iald (k := 31) (v 31 b) rfl hG (by decide) (by decide) rfl (by omega) (by show _ < ((30 : Nat) : Int); omega) (by decide) dX11_draws_51 ?_
            refine Ev.iload dX11_draws_52 rfl ?_
            refine Ei.icmp_ge (tgt := 67) dX11_draws_54 (by decide) ⟨by omega, by omega⟩ ⟨by omega, by omega⟩ (fun c8 => ?_) (fun c8 => ?_)
            · refine Ev.iload dX11_draws_67 rfl ?_
              refine Ev.istore dX11_draws_69 (by decide) ?_
              refine Ev.aload_n (i := 0) dX11_draws_71 rfl rfl ?_
              refine Em.gA (k := 31) hG (by decide) (by decide) (tb7 (i := 1) rfl) rfl rfl dX11_draws_72 ?_
              refine Ev.iload dX11_draws_75 rfl ?_
              refine Ev.dup2 dX11_draws_77 rfl rfl ?_
              refine Ex.iald (k := 31) (v 31 b) rfl hG (by decide) (by decide) rfl (by omega) (by show _ < ((30 : Nat) : Int); omega) (by decide) dX11_draws_78 ?_
              refine Ev.iload dX11_draws_79 rfl ?_
              refine Ei.sub dX11_draws_81 ?_
              refine Em.iast (k := 31) hG (by decide) (by decide) rfl (by omega) (by show _ < ((30 : Nat) : Int); omega) (by decide) dX11_draws_82 ?_
              refine Ev.iload dX11_draws_83 rfl ?_
              refine Ev.iload dX11_draws_85 rfl ?_
              refine Ei.sub dX11_draws_87 ?_
              refine Ev.istore dX11_draws_88 (by decide) ?_
              refine Ev.aload_n (i := 0) dX11_draws_90 rfl rfl ?_
              refine Em.gA (k := 44) hG (by decide) (by decide) (tb7 (i := 14) rfl) rfl rfl dX11_draws_91 ?_
              refine Ev.aload_n (i := 0) dX11_draws_94 rfl rfl ?_
              refine Ex.gS (k := 9) (v 9 0) rfl hG (by decide) (tb6 (i := 219) rfl) rfl rfl dX11_draws_95 ?_
              refine Ev.iload dX11_draws_98 rfl ?_
              refine Em.iast (k := 44) hG (by decide) (by decide) rfl (by omega) (by show _ < ((128 : Nat) : Int); omega) (by decide) dX11_draws_100 ?_
              refine Ev.aload_n (i := 0) dX11_draws_101 rfl rfl ?_
              refine Em.gA (k := 45) hG (by decide) (by decide) (tb7 (i := 15) rfl) rfl rfl dX11_draws_102 ?_
              refine Ev.aload_n (i := 0) dX11_draws_105 rfl rfl ?_
              refine Ex.gS (k := 9) (v 9 0) rfl hG (by decide) (tb6 (i := 219) rfl) rfl rfl dX11_draws_106 ?_
              refine Ev.iload_n (i := 1) dX11_draws_109 rfl rfl ?_
              refine Em.iast (k := 45) hG (by decide) (by decide) rfl (by omega) (by show _ < ((128 : Nat) : Int); omega) (by decide) dX11_draws_110 ?_
              refine Ev.aload_n (i := 0) dX11_draws_111 rfl rfl ?_
              refine Em.gA (k := 46) hG (by decide) (by decide) (tb7 (i := 16) rfl) rfl rfl dX11_draws_112 ?_
              refine Ev.aload_n (i := 0) dX11_draws_115 rfl rfl ?_
              refine Ex.gS (k := 9) (v 9 0) rfl hG (by decide) (tb6 (i := 219) rfl) rfl rfl dX11_draws_116 ?_
              refine Ev.iload dX11_draws_119 rfl ?_
              refine Em.iast (k := 46) hG (by decide) (by decide) rfl (by omega) (by show _ < ((128 : Nat) : Int); omega) (by decide) dX11_draws_121 ?_
              refine Ev.aload_n (i := 0) dX11_draws_122 rfl rfl ?_
              refine Ev.dup dX11_draws_123 rfl ?_
              refine Ex.gS (k := 9) (v 9 0) rfl hG (by decide) (tb6 (i := 219) rfl) rfl rfl dX11_draws_124 ?_
              refine Ei.const dX11_draws_127 ?_
              refine Ei.add dX11_draws_128 ?_
              refine Em.pS (k := 9) hG (by decide) (tb6 (i := 219) rfl) rfl rfl rfl rfl dX11_draws_129 ?_
              refine Ev.aload_n (i := 0) dX11_draws_132 rfl rfl ?_
              refine Em.gA (k := 31) hG (by decide) (by decide) (tb7 (i := 1) rfl) rfl rfl dX11_draws_133 ?_
              refine Ev.iload dX11_draws_136 rfl ?_
              refine Ex.iald (k := 31) (((v 31 b) - left)) (by simp [upv]) hG (by decide) (by decide) rfl (by omega) (by show _ < ((30 : Nat) : Int); omega) (by decide) dX11_draws_138 ?_
              refine Ex.if_ne (tgt := 161) dX11_draws_139 (by decide) ⟨by omega, by omega⟩ (fun c9 => ?_) (fun c9 => ?_)
              · refine Ev.aload_n (i := 0) dX11_draws_142 rfl rfl ?_
                refine Em.gA (k := 28) hG (by decide) (by decide) (tb6 (i := 238) rfl) rfl rfl dX11_draws_143 ?_
                refine Ev.iload dX11_draws_146 rfl ?_
                refine Ei.const dX11_draws_148 ?_
                refine Em.iast (k := 28) hG (by decide) (by decide) rfl (by omega) (by show _ < ((30 : Nat) : Int); omega) (by decide) dX11_draws_149 ?_
                refine Ev.aload_n (i := 0) dX11_draws_150 rfl rfl ?_
                refine Ev.aload_n (i := 0) dX11_draws_151 rfl rfl ?_
                refine Em.gA (k := 29) hG (by decide) (by decide) (tb6 (i := 239) rfl) rfl rfl dX11_draws_152 ?_
                refine Ev.iload dX11_draws_155 rfl ?_
                have q10 : 0 ≤ v 29 b ∧ v 29 b ≤ 7 := hI.2 29 b
                refine Ex.iald (k := 29) (v 29 b) rfl hG (by decide) (by decide) rfl (by omega) (by show _ < ((30 : Nat) : Int); omega) (by decide) dX11_draws_157 ?_
                refine Em.cv0 (As := [_]) hG k_X11_dirties (tb8 (i := 51) rfl) ki_X11_dirties kv_X11_dirties dX11_draws_158 rfl rfl (Nat.le_of_ble_eq_true rfl) (by decide) (s_X11_dirties (w := (v 29 b)) hG ((((((hI.up 31 b ((v 31 b) - left) (by show 0 ≤ ((v 31 b) - left) ∧ ((v 31 b) - left) ≤ 20; omega)).up 44 (v 9 0) b (by show 0 ≤ b ∧ b ≤ 29; omega)).up 45 (v 9 0) o (by show 0 ≤ o ∧ o ≤ 19; omega)).up 46 (v 9 0) left (by show 0 ≤ left ∧ left ≤ 20; omega)).up 9 0 ((v 9 0) + 1) (by show 0 ≤ ((v 9 0) + 1) ∧ ((v 9 0) + 1) ≤ 127; omega)).up 28 b 4 (by show 0 ≤ 4 ∧ 4 ≤ 4; omega)) (by show 0 ≤ (v 29 b) ∧ (v 29 b) ≤ 7; omega) (by omega)) ?_
                have hJ11 := (i_dirties (w := (v 29 b)) ((((((hI.up 31 b ((v 31 b) - left) (by show 0 ≤ ((v 31 b) - left) ∧ ((v 31 b) - left) ≤ 20; omega)).up 44 (v 9 0) b (by show 0 ≤ b ∧ b ≤ 29; omega)).up 45 (v 9 0) o (by show 0 ≤ o ∧ o ≤ 19; omega)).up 46 (v 9 0) left (by show 0 ≤ left ∧ left ≤ 20; omega)).up 9 0 ((v 9 0) + 1) (by show 0 ≤ ((v 9 0) + 1) ∧ ((v 9 0) + 1) ≤ 127; omega)).up 28 b 4 (by show 0 ≤ 4 ∧ 4 ≤ 4; omega)) (by show 0 ≤ (v 29 b) ∧ (v 29 b) ≤ 7; omega) (by omega))
                refine Ei.inc dX11_draws_161 rfl (by decide) ?_
                refine Ev.goto (tgt := 6) dX11_draws_164 (by decide) ?_
                have q12 : (f_dirties (v 29 b) (upv (upv (upv (upv (upv (upv v 31 b ((v 31 b) - left)) 44 (v 9 0) b) 45 (v 9 0) o) 46 (v 9 0) left) 9 0 ((v 9 0) + 1)) 28 b 4)) 9 0 = ((v 9 0) + 1) := (fr_dirties (w := (v 29 b)) (v := (upv (upv (upv (upv (upv (upv v 31 b ((v 31 b) - left)) 44 (v 9 0) b) 45 (v 9 0) o) 46 (v 9 0) left) 9 0 ((v 9 0) + 1)) 28 b 4)) 9 0 (by decide)).trans rfl
                have q13 : (f_dirties (v 29 b) (upv (upv (upv (upv (upv (upv v 31 b ((v 31 b) - left)) 44 (v 9 0) b) 45 (v 9 0) o) 46 (v 9 0) left) 9 0 ((v 9 0) + 1)) 28 b 4)) 5 0 = v 5 0 := (fr_dirties (w := (v 29 b)) (v := (upv (upv (upv (upv (upv (upv v 31 b ((v 31 b) - left)) 44 (v 9 0) b) 45 (v 9 0) o) 46 (v 9 0) left) 9 0 ((v 9 0) + 1)) 28 b 4)) 5 0 (by decide)).trans rfl
                rw [l_draws_6, if_neg c1, if_neg c2, if_pos c4, if_pos c6, if_pos c8, if_pos c9]
                exact Ev.fgt (ls' := [some (va_rf (some m0)), some (.int (i32 o)), some (.int (i32 r)), none, some (.int (i32 (left - left))), some (.int (i32 (b + 1))), none]) ⟨rfl, ⟨rfl, ⟨rfl, ⟨rfl, ⟨rfl, trivial⟩⟩⟩⟩⟩ (ih (left - left) (b + 1) (f_dirties (v 29 b) (upv (upv (upv (upv (upv (upv v 31 b ((v 31 b) - left)) 44 (v 9 0) b) 45 (v 9 0) o) 46 (v 9 0) left) 9 0 ((v 9 0) + 1)) 28 b 4)) (E + 1) ((hJ11).mono (T' := T) (E' := E + 1) (by omega) (by omega) (by omega) (by omega)) (by show 0 ≤ (left - left) ∧ (left - left) ≤ 40; omega) (by show 0 ≤ (b + 1) ∧ (b + 1) ≤ 100; omega) (by intro h0; have e1 := dl_one (v := v) (w := (f_dirties (v 29 b) (upv (upv (upv (upv (upv (upv v 31 b ((v 31 b) - left)) 44 (v 9 0) b) 45 (v 9 0) o) 46 (v 9 0) left) 9 0 ((v 9 0) + 1)) 28 b 4))) (b := b) (by omega) (fun i hi => by rw [fr_dirties 28 _ (by decide)]; simp [upv, hi]); have e2 : dlF (f_dirties (v 29 b) (upv (upv (upv (upv (upv (upv v 31 b ((v 31 b) - left)) 44 (v 9 0) b) 45 (v 9 0) o) 46 (v 9 0) left) 9 0 ((v 9 0) + 1)) 28 b 4)) b = 0 := (by unfold dlF; rw [fr_dirties 28 _ (by decide)]; simp [upv]); have e3 : dlF v b = 1 := (by unfold dlF; rw [if_neg (by omega)]); have e4 : (f_dirties (v 29 b) (upv (upv (upv (upv (upv (upv v 31 b ((v 31 b) - left)) 44 (v 9 0) b) 45 (v 9 0) o) 46 (v 9 0) left) 9 0 ((v 9 0) + 1)) 28 b 4)) 9 0 = v 9 0 + 1 := (by rw [fr_dirties 9 _ (by decide)]; simp [upv]); omega) (by omega) (by show 0 ≤ o ∧ o ≤ 19; omega) (by show -2147483648 ≤ r ∧ r < 2147483648; omega) (by show (((f_dirties (v 29 b) (upv (upv (upv (upv (upv (upv v 31 b ((v 31 b) - left)) 44 (v 9 0) b) 45 (v 9 0) o) 46 (v 9 0) left) 9 0 ((v 9 0) + 1)) 28 b 4)) 5 0) - (b + 1)).toNat < n; omega))
              · refine Ei.inc dX11_draws_161 rfl (by decide) ?_
                refine Ev.goto (tgt := 6) dX11_draws_164 (by decide) ?_
                rw [l_draws_6, if_neg c1, if_neg c2, if_pos c4, if_pos c6, if_pos c8, if_neg c9]
                exact Ev.fgt (ls' := [some (va_rf (some m0)), some (.int (i32 o)), some (.int (i32 r)), none, some (.int (i32 (left - left))), some (.int (i32 (b + 1))), none]) ⟨rfl, ⟨rfl, ⟨rfl, ⟨rfl, ⟨rfl, trivial⟩⟩⟩⟩⟩ (ih (left - left) (b + 1) (upv (upv (upv (upv (upv v 31 b ((v 31 b) - left)) 44 (v 9 0) b) 45 (v 9 0) o) 46 (v 9 0) left) 9 0 ((v 9 0) + 1)) (E + 1) (((((((hI.up 31 b ((v 31 b) - left) (by show 0 ≤ ((v 31 b) - left) ∧ ((v 31 b) - left) ≤ 20; omega)).up 44 (v 9 0) b (by show 0 ≤ b ∧ b ≤ 29; omega)).up 45 (v 9 0) o (by show 0 ≤ o ∧ o ≤ 19; omega)).up 46 (v 9 0) left (by show 0 ≤ left ∧ left ≤ 20; omega)).up 9 0 ((v 9 0) + 1) (by show 0 ≤ ((v 9 0) + 1) ∧ ((v 9 0) + 1) ≤ 127; omega))).mono (T' := T) (E' := E + 1) (by omega) (by omega) (by omega) (by omega)) (by show 0 ≤ (left - left) ∧ (left - left) ≤ 40; omega) (by show 0 ≤ (b + 1) ∧ (b + 1) ≤ 100; omega) (by first | exact hJ | (intro h0; omega)) (by omega) (by show 0 ≤ o ∧ o ≤ 19; omega) (by show -2147483648 ≤ r ∧ r < 2147483648; omega) (by show ((v 5 0) - (b + 1)).toNat < n; omega))
            · refine Ev.aload_n (i := 0) dX11_draws_57 rfl rfl ?_
              refine Em.gA (k := 31) hG (by decide) (by decide) (tb7 (i := 1) rfl) rfl rfl dX11_draws_58 ?_
              refine Ev.iload dX11_draws_61 rfl ?_
              refine Ex.iald (k := 31) (v 31 b) rfl hG (by decide) (by decide) rfl (by omega) (by show _ < ((30 : Nat) : Int); omega) (by decide) dX11_draws_63 ?_
              refine Ev.goto (tgt := 69) dX11_draws_64 (by decide) ?_
              refine Ev.istore dX11_draws_69 (by decide) ?_
              refine Ev.aload_n (i := 0) dX11_draws_71 rfl rfl ?_
              refine Em.gA (k := 31) hG (by decide) (by decide) (tb7 (i := 1) rfl) rfl rfl dX11_draws_72 ?_
              refine Ev.iload dX11_draws_75 rfl ?_
              refine Ev.dup2 dX11_draws_77 rfl rfl ?_
              refine Ex.iald (k := 31) (v 31 b) rfl hG (by decide) (by decide) rfl (by omega) (by show _ < ((30 : Nat) : Int); omega) (by decide) dX11_draws_78 ?_
              refine Ev.iload dX11_draws_79 rfl ?_
              refine Ei.sub dX11_draws_81 ?_
              refine Em.iast (k := 31) hG (by decide) (by decide) rfl (by omega) (by show _ < ((30 : Nat) : Int); omega) (by decide) dX11_draws_82 ?_
              refine Ev.iload dX11_draws_83 rfl ?_
              refine Ev.iload dX11_draws_85 rfl ?_
              refine Ei.sub dX11_draws_87 ?_
              refine Ev.istore dX11_draws_88 (by decide) ?_
              refine Ev.aload_n (i := 0) dX11_draws_90 rfl rfl ?_
              refine Em.gA (k := 44) hG (by decide) (by decide) (tb7 (i := 14) rfl) rfl rfl dX11_draws_91 ?_
              refine Ev.aload_n (i := 0) dX11_draws_94 rfl rfl ?_
              refine Ex.gS (k := 9) (v 9 0) rfl hG (by decide) (tb6 (i := 219) rfl) rfl rfl dX11_draws_95 ?_
              refine Ev.iload dX11_draws_98 rfl ?_
              refine Em.iast (k := 44) hG (by decide) (by decide) rfl (by omega) (by show _ < ((128 : Nat) : Int); omega) (by decide) dX11_draws_100 ?_
              refine Ev.aload_n (i := 0) dX11_draws_101 rfl rfl ?_
              refine Em.gA (k := 45) hG (by decide) (by decide) (tb7 (i := 15) rfl) rfl rfl dX11_draws_102 ?_
              refine Ev.aload_n (i := 0) dX11_draws_105 rfl rfl ?_
              refine Ex.gS (k := 9) (v 9 0) rfl hG (by decide) (tb6 (i := 219) rfl) rfl rfl dX11_draws_106 ?_
              refine Ev.iload_n (i := 1) dX11_draws_109 rfl rfl ?_
              refine Em.iast (k := 45) hG (by decide) (by decide) rfl (by omega) (by show _ < ((128 : Nat) : Int); omega) (by decide) dX11_draws_110 ?_
              refine Ev.aload_n (i := 0) dX11_draws_111 rfl rfl ?_
              refine Em.gA (k := 46) hG (by decide) (by decide) (tb7 (i := 16) rfl) rfl rfl dX11_draws_112 ?_
              refine Ev.aload_n (i := 0) dX11_draws_115 rfl rfl ?_
              refine Ex.gS (k := 9) (v 9 0) rfl hG (by decide) (tb6 (i := 219) rfl) rfl rfl dX11_draws_116 ?_
              refine Ev.iload dX11_draws_119 rfl ?_
              refine Em.iast (k := 46) hG (by decide) (by decide) rfl (by omega) (by show _ < ((128 : Nat) : Int); omega) (by decide) dX11_draws_121 ?_
              refine Ev.aload_n (i := 0) dX11_draws_122 rfl rfl ?_
              refine Ev.dup dX11_draws_123 rfl ?_
              refine Ex.gS (k := 9) (v 9 0) rfl hG (by decide) (tb6 (i := 219) rfl) rfl rfl dX11_draws_124 ?_
              refine Ei.const dX11_draws_127 ?_
              refine Ei.add dX11_draws_128 ?_
              refine Em.pS (k := 9) hG (by decide) (tb6 (i := 219) rfl) rfl rfl rfl rfl dX11_draws_129 ?_
              refine Ev.aload_n (i := 0) dX11_draws_132 rfl rfl ?_
              refine Em.gA (k := 31) hG (by decide) (by decide) (tb7 (i := 1) rfl) rfl rfl dX11_draws_133 ?_
              refine Ev.iload dX11_draws_136 rfl ?_
              refine Ex.iald (k := 31) (((v 31 b) - (v 31 b))) (by simp [upv]) hG (by decide) (by decide) rfl (by omega) (by show _ < ((30 : Nat) : Int); omega) (by decide) dX11_draws_138 ?_
              refine Ex.if_ne (tgt := 161) dX11_draws_139 (by decide) ⟨by omega, by omega⟩ (fun c14 => ?_) (fun c14 => ?_)
              · refine Ev.aload_n (i := 0) dX11_draws_142 rfl rfl ?_
                refine Em.gA (k := 28) hG (by decide) (by decide) (tb6 (i := 238) rfl) rfl rfl dX11_draws_143 ?_
                refine Ev.iload dX11_draws_146 rfl ?_
                refine Ei.const dX11_draws_148 ?_
                refine Em.iast (k := 28) hG (by decide) (by decide) rfl (by omega) (by show _ < ((30 : Nat) : Int); omega) (by decide) dX11_draws_149 ?_
                refine Ev.aload_n (i := 0) dX11_draws_150 rfl rfl ?_
                refine Ev.aload_n (i := 0) dX11_draws_151 rfl rfl ?_
                refine Em.gA (k := 29) hG (by decide) (by decide) (tb6 (i := 239) rfl) rfl rfl dX11_draws_152 ?_
                refine Ev.iload dX11_draws_155 rfl ?_
                have q15 : 0 ≤ v 29 b ∧ v 29 b ≤ 7 := hI.2 29 b
                refine Ex.iald (k := 29) (v 29 b) rfl hG (by decide) (by decide) rfl (by omega) (by show _ < ((30 : Nat) : Int); omega) (by decide) dX11_draws_157 ?_
                refine Em.cv0 (As := [_]) hG k_X11_dirties (tb8 (i := 51) rfl) ki_X11_dirties kv_X11_dirties dX11_draws_158 rfl rfl (Nat.le_of_ble_eq_true rfl) (by decide) (s_X11_dirties (w := (v 29 b)) hG ((((((hI.up 31 b ((v 31 b) - (v 31 b)) (by show 0 ≤ ((v 31 b) - (v 31 b)) ∧ ((v 31 b) - (v 31 b)) ≤ 20; omega)).up 44 (v 9 0) b (by show 0 ≤ b ∧ b ≤ 29; omega)).up 45 (v 9 0) o (by show 0 ≤ o ∧ o ≤ 19; omega)).up 46 (v 9 0) (v 31 b) (by show 0 ≤ (v 31 b) ∧ (v 31 b) ≤ 20; omega)).up 9 0 ((v 9 0) + 1) (by show 0 ≤ ((v 9 0) + 1) ∧ ((v 9 0) + 1) ≤ 127; omega)).up 28 b 4 (by show 0 ≤ 4 ∧ 4 ≤ 4; omega)) (by show 0 ≤ (v 29 b) ∧ (v 29 b) ≤ 7; omega) (by omega)) ?_
                have hJ16 := (i_dirties (w := (v 29 b)) ((((((hI.up 31 b ((v 31 b) - (v 31 b)) (by show 0 ≤ ((v 31 b) - (v 31 b)) ∧ ((v 31 b) - (v 31 b)) ≤ 20; omega)).up 44 (v 9 0) b (by show 0 ≤ b ∧ b ≤ 29; omega)).up 45 (v 9 0) o (by show 0 ≤ o ∧ o ≤ 19; omega)).up 46 (v 9 0) (v 31 b) (by show 0 ≤ (v 31 b) ∧ (v 31 b) ≤ 20; omega)).up 9 0 ((v 9 0) + 1) (by show 0 ≤ ((v 9 0) + 1) ∧ ((v 9 0) + 1) ≤ 127; omega)).up 28 b 4 (by show 0 ≤ 4 ∧ 4 ≤ 4; omega)) (by show 0 ≤ (v 29 b) ∧ (v 29 b) ≤ 7; omega) (by omega))
                refine Ei.inc dX11_draws_161 rfl (by decide) ?_
                refine Ev.goto (tgt := 6) dX11_draws_164 (by decide) ?_
                have q17 : (f_dirties (v 29 b) (upv (upv (upv (upv (upv (upv v 31 b ((v 31 b) - (v 31 b))) 44 (v 9 0) b) 45 (v 9 0) o) 46 (v 9 0) (v 31 b)) 9 0 ((v 9 0) + 1)) 28 b 4)) 9 0 = ((v 9 0) + 1) := (fr_dirties (w := (v 29 b)) (v := (upv (upv (upv (upv (upv (upv v 31 b ((v 31 b) - (v 31 b))) 44 (v 9 0) b) 45 (v 9 0) o) 46 (v 9 0) (v 31 b)) 9 0 ((v 9 0) + 1)) 28 b 4)) 9 0 (by decide)).trans rfl
                have q18 : (f_dirties (v 29 b) (upv (upv (upv (upv (upv (upv v 31 b ((v 31 b) - (v 31 b))) 44 (v 9 0) b) 45 (v 9 0) o) 46 (v 9 0) (v 31 b)) 9 0 ((v 9 0) + 1)) 28 b 4)) 5 0 = v 5 0 := (fr_dirties (w := (v 29 b)) (v := (upv (upv (upv (upv (upv (upv v 31 b ((v 31 b) - (v 31 b))) 44 (v 9 0) b) 45 (v 9 0) o) 46 (v 9 0) (v 31 b)) 9 0 ((v 9 0) + 1)) 28 b 4)) 5 0 (by decide)).trans rfl
                rw [l_draws_6, if_neg c1, if_neg c2, if_pos c4, if_pos c6, if_neg c8, if_pos c14]
                exact Ev.fgt (ls' := [some (va_rf (some m0)), some (.int (i32 o)), some (.int (i32 r)), none, some (.int (i32 (left - (v 31 b)))), some (.int (i32 (b + 1))), none]) ⟨rfl, ⟨rfl, ⟨rfl, ⟨rfl, ⟨rfl, trivial⟩⟩⟩⟩⟩ (ih (left - (v 31 b)) (b + 1) (f_dirties (v 29 b) (upv (upv (upv (upv (upv (upv v 31 b ((v 31 b) - (v 31 b))) 44 (v 9 0) b) 45 (v 9 0) o) 46 (v 9 0) (v 31 b)) 9 0 ((v 9 0) + 1)) 28 b 4)) (E + 1) ((hJ16).mono (T' := T) (E' := E + 1) (by omega) (by omega) (by omega) (by omega)) (by show 0 ≤ (left - (v 31 b)) ∧ (left - (v 31 b)) ≤ 40; omega) (by show 0 ≤ (b + 1) ∧ (b + 1) ≤ 100; omega) (by intro h0; have e1 := dl_one (v := v) (w := (f_dirties (v 29 b) (upv (upv (upv (upv (upv (upv v 31 b ((v 31 b) - (v 31 b))) 44 (v 9 0) b) 45 (v 9 0) o) 46 (v 9 0) (v 31 b)) 9 0 ((v 9 0) + 1)) 28 b 4))) (b := b) (by omega) (fun i hi => by rw [fr_dirties 28 _ (by decide)]; simp [upv, hi]); have e2 : dlF (f_dirties (v 29 b) (upv (upv (upv (upv (upv (upv v 31 b ((v 31 b) - (v 31 b))) 44 (v 9 0) b) 45 (v 9 0) o) 46 (v 9 0) (v 31 b)) 9 0 ((v 9 0) + 1)) 28 b 4)) b = 0 := (by unfold dlF; rw [fr_dirties 28 _ (by decide)]; simp [upv]); have e3 : dlF v b = 1 := (by unfold dlF; rw [if_neg (by omega)]); have e4 : (f_dirties (v 29 b) (upv (upv (upv (upv (upv (upv v 31 b ((v 31 b) - (v 31 b))) 44 (v 9 0) b) 45 (v 9 0) o) 46 (v 9 0) (v 31 b)) 9 0 ((v 9 0) + 1)) 28 b 4)) 9 0 = v 9 0 + 1 := (by rw [fr_dirties 9 _ (by decide)]; simp [upv]); omega) (by omega) (by show 0 ≤ o ∧ o ≤ 19; omega) (by show -2147483648 ≤ r ∧ r < 2147483648; omega) (by show (((f_dirties (v 29 b) (upv (upv (upv (upv (upv (upv v 31 b ((v 31 b) - (v 31 b))) 44 (v 9 0) b) 45 (v 9 0) o) 46 (v 9 0) (v 31 b)) 9 0 ((v 9 0) + 1)) 28 b 4)) 5 0) - (b + 1)).toNat < n; omega))
              · refine Ei.inc dX11_draws_161 rfl (by decide) ?_
                refine Ev.goto (tgt := 6) dX11_draws_164 (by decide) ?_
                rw [l_draws_6, if_neg c1, if_neg c2, if_pos c4, if_pos c6, if_neg c8, if_neg c14]
                exact Ev.fgt (ls' := [some (va_rf (some m0)), some (.int (i32 o)), some (.int (i32 r)), none, some (.int (i32 (left - (v 31 b)))), some (.int (i32 (b + 1))), none]) ⟨rfl, ⟨rfl, ⟨rfl, ⟨rfl, ⟨rfl, trivial⟩⟩⟩⟩⟩ (ih (left - (v 31 b)) (b + 1) (upv (upv (upv (upv (upv v 31 b ((v 31 b) - (v 31 b))) 44 (v 9 0) b) 45 (v 9 0) o) 46 (v 9 0) (v 31 b)) 9 0 ((v 9 0) + 1)) (E + 1) (((((((hI.up 31 b ((v 31 b) - (v 31 b)) (by show 0 ≤ ((v 31 b) - (v 31 b)) ∧ ((v 31 b) - (v 31 b)) ≤ 20; omega)).up 44 (v 9 0) b (by show 0 ≤ b ∧ b ≤ 29; omega)).up 45 (v 9 0) o (by show 0 ≤ o ∧ o ≤ 19; omega)).up 46 (v 9 0) (v 31 b) (by show 0 ≤ (v 31 b) ∧ (v 31 b) ≤ 20; omega)).up 9 0 ((v 9 0) + 1) (by show 0 ≤ ((v 9 0) + 1) ∧ ((v 9 0) + 1) ≤ 127; omega))).mono (T' := T) (E' := E + 1) (by omega) (by omega) (by omega) (by omega)) (by show 0 ≤ (left - (v 31 b)) ∧ (left - (v 31 b)) ≤ 40; omega) (by show 0 ≤ (b + 1) ∧ (b + 1) ≤ 100; omega) (by first | exact hJ | (intro h0; omega)) (by omega) (by show 0 ≤ o ∧ o ≤ 19; omega) (by show -2147483648 ≤ r ∧ r < 2147483648; omega) (by show ((v 5 0) - (b + 1)).toNat < n; omega))
          · refine Ev.goto (tgt := 161) dX11_draws_42 (by decide) ?_
            refine Ei.inc dX11_draws_161 rfl (by decide) ?_
            refine Ev.goto (tgt := 6) dX11_draws_164 (by decide) ?_
            rw [l_draws_6, if_neg c1, if_neg c2, if_pos c4, if_neg c6]
            exact Ev.fgt (ls' := [some (va_rf (some m0)), some (.int (i32 o)), some (.int (i32 r)), none, some (.int (i32 left)), some (.int (i32 (b + 1))), none]) ⟨rfl, ⟨rfl, ⟨rfl, ⟨rfl, ⟨rfl, trivial⟩⟩⟩⟩⟩ (ih left (b + 1) v (E + 1) ((hI).mono (T' := T) (E' := E + 1) (by omega) (by omega) (by omega) (by omega)) (by show 0 ≤ left ∧ left ≤ 40; omega) (by show 0 ≤ (b + 1) ∧ (b + 1) ≤ 100; omega) (by first | exact hJ | (intro h0; omega)) (by omega) (by show 0 ≤ o ∧ o ≤ 19; omega) (by show -2147483648 ≤ r ∧ r < 2147483648; omega) (by show ((v 5 0) - (b + 1)).toNat < n; omega))
        · refine Ei.inc dX11_draws_161 rfl (by decide) ?_
          refine Ev.goto (tgt := 6) dX11_draws_164 (by decide) ?_
          rw [l_draws_6, if_neg c1, if_neg c2, if_neg c4]
          exact Ev.fgt (ls' := [some (va_rf (some m0)), some (.int (i32 o)), some (.int (i32 r)), none, some (.int (i32 left)), some (.int (i32 (b + 1))), none]) ⟨rfl, ⟨rfl, ⟨rfl, ⟨rfl, ⟨rfl, trivial⟩⟩⟩⟩⟩ (ih left (b + 1) v (E + 1) ((hI).mono (T' := T) (E' := E + 1) (by omega) (by omega) (by omega) (by omega)) (by show 0 ≤ left ∧ left ≤ 40; omega) (by show 0 ≤ (b + 1) ∧ (b + 1) ≤ 100; omega) (by first | exact hJ | (intro h0; omega)) (by omega) (by show 0 ≤ o ∧ o ≤ 19; omega) (by show -2147483648 ≤ r ∧ r < 2147483648; omega) (by show ((v 5 0) - (b + 1)).toNat < n; omega))
theorem fr_l_draws_6 {o : Int} {r : Int} : ∀ (n : Nat) (left b : Int) (v : Vw) (fk : Nat) (fi : Int) (hk : fk ≠ 9 ∧ fk ≠ 10 ∧ fk ≠ 15 ∧ fk ≠ 18 ∧ fk ≠ 28 ∧ fk ≠ 31 ∧ fk ≠ 44 ∧ fk ≠ 45 ∧ fk ≠ 46), (l_draws_6 o r n left b v) fk fi = v fk fi := by
  intro n left b v fk fi hk
  induction n generalizing left b v with
  | zero => rfl
  | succ n ih =>
    by_cases c1 : (v 5 0) ≤ b
    · rw [l_draws_6, if_pos c1]
      try rfl
    · by_cases c2 : left ≤ 0
      · rw [l_draws_6, if_neg c1, if_pos c2]
        try rfl
      · by_cases c4 : (v 28 b) = 3
        · by_cases c6 : (v 26 b) = r
          · by_cases c8 : left ≤ (v 31 b)
            · by_cases c9 : (((v 31 b) - left)) = 0
              · rw [l_draws_6, if_neg c1, if_neg c2, if_pos c4, if_pos c6, if_pos c8, if_pos c9]
                exact (ih (left - left) (b + 1) (f_dirties (v 29 b) (upv (upv (upv (upv (upv (upv v 31 b ((v 31 b) - left)) 44 (v 9 0) b) 45 (v 9 0) o) 46 (v 9 0) left) 9 0 ((v 9 0) + 1)) 28 b 4))).trans ((fr_dirties (w := (v 29 b)) (v := (upv (upv (upv (upv (upv (upv v 31 b ((v 31 b) - left)) 44 (v 9 0) b) 45 (v 9 0) o) 46 (v 9 0) left) 9 0 ((v 9 0) + 1)) 28 b 4)) fk fi (by omega)).trans ((upv_nk (by omega)).trans ((upv_nk (by omega)).trans ((upv_nk (by omega)).trans ((upv_nk (by omega)).trans ((upv_nk (by omega)).trans ((upv_nk (by omega)).trans rfl)))))))
              · rw [l_draws_6, if_neg c1, if_neg c2, if_pos c4, if_pos c6, if_pos c8, if_neg c9]
                exact (ih (left - left) (b + 1) (upv (upv (upv (upv (upv v 31 b ((v 31 b) - left)) 44 (v 9 0) b) 45 (v 9 0) o) 46 (v 9 0) left) 9 0 ((v 9 0) + 1))).trans ((upv_nk (by omega)).trans ((upv_nk (by omega)).trans ((upv_nk (by omega)).trans ((upv_nk (by omega)).trans ((upv_nk (by omega)).trans rfl)))))
            · by_cases c14 : (((v 31 b) - (v 31 b))) = 0
              · rw [l_draws_6, if_neg c1, if_neg c2, if_pos c4, if_pos c6, if_neg c8, if_pos c14]
                exact (ih (left - (v 31 b)) (b + 1) (f_dirties (v 29 b) (upv (upv (upv (upv (upv (upv v 31 b ((v 31 b) - (v 31 b))) 44 (v 9 0) b) 45 (v 9 0) o) 46 (v 9 0) (v 31 b)) 9 0 ((v 9 0) + 1)) 28 b 4))).trans ((fr_dirties (w := (v 29 b)) (v := (upv (upv (upv (upv (upv (upv v 31 b ((v 31 b) - (v 31 b))) 44 (v 9 0) b) 45 (v 9 0) o) 46 (v 9 0) (v 31 b)) 9 0 ((v 9 0) + 1)) 28 b 4)) fk fi (by omega)).trans ((upv_nk (by omega)).trans ((upv_nk (by omega)).trans ((upv_nk (by omega)).trans ((upv_nk (by omega)).trans ((upv_nk (by omega)).trans ((upv_nk (by omega)).trans rfl)))))))
              · rw [l_draws_6, if_neg c1, if_neg c2, if_pos c4, if_pos c6, if_neg c8, if_neg c14]
                exact (ih (left - (v 31 b)) (b + 1) (upv (upv (upv (upv (upv v 31 b ((v 31 b) - (v 31 b))) 44 (v 9 0) b) 45 (v 9 0) o) 46 (v 9 0) (v 31 b)) 9 0 ((v 9 0) + 1))).trans ((upv_nk (by omega)).trans ((upv_nk (by omega)).trans ((upv_nk (by omega)).trans ((upv_nk (by omega)).trans ((upv_nk (by omega)).trans rfl)))))
          · rw [l_draws_6, if_neg c1, if_neg c2, if_pos c4, if_neg c6]
            exact (ih left (b + 1) v).trans rfl
        · rw [l_draws_6, if_neg c1, if_neg c2, if_neg c4]
          exact (ih left (b + 1) v).trans rfl
theorem i_l_draws_6 {T : Int} {o : Int} {r : Int} : ∀ (n : Nat) (left b : Int) (v : Vw) (E : Int) (hI : IM v T E) (hl : 0 ≤ left ∧ left ≤ 40) (hb : 0 ≤ b ∧ b ≤ 100) (hJ : 0 < left → v 9 0 + dl v ≤ 109) (hE : E + ((n : Nat) : Int) ≤ 1000000000) (ho : 0 ≤ o ∧ o ≤ 19) (hr : -2147483648 ≤ r ∧ r < 2147483648), IM (l_draws_6 o r n left b v) T (E + (n : Int)) := by
  intro n
  induction n with
  | zero =>
    intro left b v E hI hl hb hJ hE ho hr
    have hT := hI.1
    exact hI.mono (by omega) (by omega) (by omega) (by omega)
  | succ n ih =>
    intro left b v E hI hl hb hJ hE ho hr
    have hT := hI.1
    have u5 : 0 ≤ v 5 0 ∧ v 5 0 ≤ 30 := hI.2 5 0
    have u9 : 0 ≤ v 9 0 ∧ v 9 0 ≤ 127 := hI.2 9 0
    by_cases c1 : (v 5 0) ≤ b
    · rw [l_draws_6, if_pos c1]
      exact (hI).mono (by omega) (by omega) (by omega) (by omega)
    · by_cases c2 : left ≤ 0
      · rw [l_draws_6, if_neg c1, if_pos c2]
        exact (hI).mono (by omega) (by omega) (by omega) (by omega)
      · have hdn := dl_nn v
        have q3 : 0 ≤ v 28 b ∧ v 28 b ≤ 4 := hI.2 28 b
        by_cases c4 : (v 28 b) = 3
        · have q5 : 0 ≤ v 26 b ∧ v 26 b ≤ 4 := hI.2 26 b
          by_cases c6 : (v 26 b) = r
          · have q7 : 0 ≤ v 31 b ∧ v 31 b ≤ 20 := hI.2 31 b
            by_cases c8 : left ≤ (v 31 b)
            · by_cases c9 : (((v 31 b) - left)) = 0
              · have q10 : 0 ≤ v 29 b ∧ v 29 b ≤ 7 := hI.2 29 b
                have hJ11 := (i_dirties (w := (v 29 b)) ((((((hI.up 31 b ((v 31 b) - left) (by show 0 ≤ ((v 31 b) - left) ∧ ((v 31 b) - left) ≤ 20; omega)).up 44 (v 9 0) b (by show 0 ≤ b ∧ b ≤ 29; omega)).up 45 (v 9 0) o (by show 0 ≤ o ∧ o ≤ 19; omega)).up 46 (v 9 0) left (by show 0 ≤ left ∧ left ≤ 20; omega)).up 9 0 ((v 9 0) + 1) (by show 0 ≤ ((v 9 0) + 1) ∧ ((v 9 0) + 1) ≤ 127; omega)).up 28 b 4 (by show 0 ≤ 4 ∧ 4 ≤ 4; omega)) (by show 0 ≤ (v 29 b) ∧ (v 29 b) ≤ 7; omega) (by omega))
                have q12 : (f_dirties (v 29 b) (upv (upv (upv (upv (upv (upv v 31 b ((v 31 b) - left)) 44 (v 9 0) b) 45 (v 9 0) o) 46 (v 9 0) left) 9 0 ((v 9 0) + 1)) 28 b 4)) 9 0 = ((v 9 0) + 1) := (fr_dirties (w := (v 29 b)) (v := (upv (upv (upv (upv (upv (upv v 31 b ((v 31 b) - left)) 44 (v 9 0) b) 45 (v 9 0) o) 46 (v 9 0) left) 9 0 ((v 9 0) + 1)) 28 b 4)) 9 0 (by decide)).trans rfl
                have q13 : (f_dirties (v 29 b) (upv (upv (upv (upv (upv (upv v 31 b ((v 31 b) - left)) 44 (v 9 0) b) 45 (v 9 0) o) 46 (v 9 0) left) 9 0 ((v 9 0) + 1)) 28 b 4)) 5 0 = v 5 0 := (fr_dirties (w := (v 29 b)) (v := (upv (upv (upv (upv (upv (upv v 31 b ((v 31 b) - left)) 44 (v 9 0) b) 45 (v 9 0) o) 46 (v 9 0) left) 9 0 ((v 9 0) + 1)) 28 b 4)) 5 0 (by decide)).trans rfl
                rw [l_draws_6, if_neg c1, if_neg c2, if_pos c4, if_pos c6, if_pos c8, if_pos c9]
                exact (ih (left - left) (b + 1) (f_dirties (v 29 b) (upv (upv (upv (upv (upv (upv v 31 b ((v 31 b) - left)) 44 (v 9 0) b) 45 (v 9 0) o) 46 (v 9 0) left) 9 0 ((v 9 0) + 1)) 28 b 4)) (E + 1) ((hJ11).mono (T' := T) (E' := E + 1) (by omega) (by omega) (by omega) (by omega)) (by show 0 ≤ (left - left) ∧ (left - left) ≤ 40; omega) (by show 0 ≤ (b + 1) ∧ (b + 1) ≤ 100; omega) (by intro h0; have e1 := dl_one (v := v) (w := (f_dirties (v 29 b) (upv (upv (upv (upv (upv (upv v 31 b ((v 31 b) - left)) 44 (v 9 0) b) 45 (v 9 0) o) 46 (v 9 0) left) 9 0 ((v 9 0) + 1)) 28 b 4))) (b := b) (by omega) (fun i hi => by rw [fr_dirties 28 _ (by decide)]; simp [upv, hi]); have e2 : dlF (f_dirties (v 29 b) (upv (upv (upv (upv (upv (upv v 31 b ((v 31 b) - left)) 44 (v 9 0) b) 45 (v 9 0) o) 46 (v 9 0) left) 9 0 ((v 9 0) + 1)) 28 b 4)) b = 0 := (by unfold dlF; rw [fr_dirties 28 _ (by decide)]; simp [upv]); have e3 : dlF v b = 1 := (by unfold dlF; rw [if_neg (by omega)]); have e4 : (f_dirties (v 29 b) (upv (upv (upv (upv (upv (upv v 31 b ((v 31 b) - left)) 44 (v 9 0) b) 45 (v 9 0) o) 46 (v 9 0) left) 9 0 ((v 9 0) + 1)) 28 b 4)) 9 0 = v 9 0 + 1 := (by rw [fr_dirties 9 _ (by decide)]; simp [upv]); omega) (by omega) (by show 0 ≤ o ∧ o ≤ 19; omega) (by show -2147483648 ≤ r ∧ r < 2147483648; omega)).mono (by omega) (by omega) (by omega) (by omega)
              · rw [l_draws_6, if_neg c1, if_neg c2, if_pos c4, if_pos c6, if_pos c8, if_neg c9]
                exact (ih (left - left) (b + 1) (upv (upv (upv (upv (upv v 31 b ((v 31 b) - left)) 44 (v 9 0) b) 45 (v 9 0) o) 46 (v 9 0) left) 9 0 ((v 9 0) + 1)) (E + 1) (((((((hI.up 31 b ((v 31 b) - left) (by show 0 ≤ ((v 31 b) - left) ∧ ((v 31 b) - left) ≤ 20; omega)).up 44 (v 9 0) b (by show 0 ≤ b ∧ b ≤ 29; omega)).up 45 (v 9 0) o (by show 0 ≤ o ∧ o ≤ 19; omega)).up 46 (v 9 0) left (by show 0 ≤ left ∧ left ≤ 20; omega)).up 9 0 ((v 9 0) + 1) (by show 0 ≤ ((v 9 0) + 1) ∧ ((v 9 0) + 1) ≤ 127; omega))).mono (T' := T) (E' := E + 1) (by omega) (by omega) (by omega) (by omega)) (by show 0 ≤ (left - left) ∧ (left - left) ≤ 40; omega) (by show 0 ≤ (b + 1) ∧ (b + 1) ≤ 100; omega) (by first | exact hJ | (intro h0; omega)) (by omega) (by show 0 ≤ o ∧ o ≤ 19; omega) (by show -2147483648 ≤ r ∧ r < 2147483648; omega)).mono (by omega) (by omega) (by omega) (by omega)
            · by_cases c14 : (((v 31 b) - (v 31 b))) = 0
              · have q15 : 0 ≤ v 29 b ∧ v 29 b ≤ 7 := hI.2 29 b
                have hJ16 := (i_dirties (w := (v 29 b)) ((((((hI.up 31 b ((v 31 b) - (v 31 b)) (by show 0 ≤ ((v 31 b) - (v 31 b)) ∧ ((v 31 b) - (v 31 b)) ≤ 20; omega)).up 44 (v 9 0) b (by show 0 ≤ b ∧ b ≤ 29; omega)).up 45 (v 9 0) o (by show 0 ≤ o ∧ o ≤ 19; omega)).up 46 (v 9 0) (v 31 b) (by show 0 ≤ (v 31 b) ∧ (v 31 b) ≤ 20; omega)).up 9 0 ((v 9 0) + 1) (by show 0 ≤ ((v 9 0) + 1) ∧ ((v 9 0) + 1) ≤ 127; omega)).up 28 b 4 (by show 0 ≤ 4 ∧ 4 ≤ 4; omega)) (by show 0 ≤ (v 29 b) ∧ (v 29 b) ≤ 7; omega) (by omega))
                have q17 : (f_dirties (v 29 b) (upv (upv (upv (upv (upv (upv v 31 b ((v 31 b) - (v 31 b))) 44 (v 9 0) b) 45 (v 9 0) o) 46 (v 9 0) (v 31 b)) 9 0 ((v 9 0) + 1)) 28 b 4)) 9 0 = ((v 9 0) + 1) := (fr_dirties (w := (v 29 b)) (v := (upv (upv (upv (upv (upv (upv v 31 b ((v 31 b) - (v 31 b))) 44 (v 9 0) b) 45 (v 9 0) o) 46 (v 9 0) (v 31 b)) 9 0 ((v 9 0) + 1)) 28 b 4)) 9 0 (by decide)).trans rfl
                have q18 : (f_dirties (v 29 b) (upv (upv (upv (upv (upv (upv v 31 b ((v 31 b) - (v 31 b))) 44 (v 9 0) b) 45 (v 9 0) o) 46 (v 9 0) (v 31 b)) 9 0 ((v 9 0) + 1)) 28 b 4)) 5 0 = v 5 0 := (fr_dirties (w := (v 29 b)) (v := (upv (upv (upv (upv (upv (upv v 31 b ((v 31 b) - (v 31 b))) 44 (v 9 0) b) 45 (v 9 0) o) 46 (v 9 0) (v 31 b)) 9 0 ((v 9 0) + 1)) 28 b 4)) 5 0 (by decide)).trans rfl
                rw [l_draws_6, if_neg c1, if_neg c2, if_pos c4, if_pos c6, if_neg c8, if_pos c14]
                exact (ih (left - (v 31 b)) (b + 1) (f_dirties (v 29 b) (upv (upv (upv (upv (upv (upv v 31 b ((v 31 b) - (v 31 b))) 44 (v 9 0) b) 45 (v 9 0) o) 46 (v 9 0) (v 31 b)) 9 0 ((v 9 0) + 1)) 28 b 4)) (E + 1) ((hJ16).mono (T' := T) (E' := E + 1) (by omega) (by omega) (by omega) (by omega)) (by show 0 ≤ (left - (v 31 b)) ∧ (left - (v 31 b)) ≤ 40; omega) (by show 0 ≤ (b + 1) ∧ (b + 1) ≤ 100; omega) (by intro h0; have e1 := dl_one (v := v) (w := (f_dirties (v 29 b) (upv (upv (upv (upv (upv (upv v 31 b ((v 31 b) - (v 31 b))) 44 (v 9 0) b) 45 (v 9 0) o) 46 (v 9 0) (v 31 b)) 9 0 ((v 9 0) + 1)) 28 b 4))) (b := b) (by omega) (fun i hi => by rw [fr_dirties 28 _ (by decide)]; simp [upv, hi]); have e2 : dlF (f_dirties (v 29 b) (upv (upv (upv (upv (upv (upv v 31 b ((v 31 b) - (v 31 b))) 44 (v 9 0) b) 45 (v 9 0) o) 46 (v 9 0) (v 31 b)) 9 0 ((v 9 0) + 1)) 28 b 4)) b = 0 := (by unfold dlF; rw [fr_dirties 28 _ (by decide)]; simp [upv]); have e3 : dlF v b = 1 := (by unfold dlF; rw [if_neg (by omega)]); have e4 : (f_dirties (v 29 b) (upv (upv (upv (upv (upv (upv v 31 b ((v 31 b) - (v 31 b))) 44 (v 9 0) b) 45 (v 9 0) o) 46 (v 9 0) (v 31 b)) 9 0 ((v 9 0) + 1)) 28 b 4)) 9 0 = v 9 0 + 1 := (by rw [fr_dirties 9 _ (by decide)]; simp [upv]); omega) (by omega) (by show 0 ≤ o ∧ o ≤ 19; omega) (by show -2147483648 ≤ r ∧ r < 2147483648; omega)).mono (by omega) (by omega) (by omega) (by omega)
              · rw [l_draws_6, if_neg c1, if_neg c2, if_pos c4, if_pos c6, if_neg c8, if_neg c14]
                exact (ih (left - (v 31 b)) (b + 1) (upv (upv (upv (upv (upv v 31 b ((v 31 b) - (v 31 b))) 44 (v 9 0) b) 45 (v 9 0) o) 46 (v 9 0) (v 31 b)) 9 0 ((v 9 0) + 1)) (E + 1) (((((((hI.up 31 b ((v 31 b) - (v 31 b)) (by show 0 ≤ ((v 31 b) - (v 31 b)) ∧ ((v 31 b) - (v 31 b)) ≤ 20; omega)).up 44 (v 9 0) b (by show 0 ≤ b ∧ b ≤ 29; omega)).up 45 (v 9 0) o (by show 0 ≤ o ∧ o ≤ 19; omega)).up 46 (v 9 0) (v 31 b) (by show 0 ≤ (v 31 b) ∧ (v 31 b) ≤ 20; omega)).up 9 0 ((v 9 0) + 1) (by show 0 ≤ ((v 9 0) + 1) ∧ ((v 9 0) + 1) ≤ 127; omega))).mono (T' := T) (E' := E + 1) (by omega) (by omega) (by omega) (by omega)) (by show 0 ≤ (left - (v 31 b)) ∧ (left - (v 31 b)) ≤ 40; omega) (by show 0 ≤ (b + 1) ∧ (b + 1) ≤ 100; omega) (by first | exact hJ | (intro h0; omega)) (by omega) (by show 0 ≤ o ∧ o ≤ 19; omega) (by show -2147483648 ≤ r ∧ r < 2147483648; omega)).mono (by omega) (by omega) (by omega) (by omega)
          · rw [l_draws_6, if_neg c1, if_neg c2, if_pos c4, if_neg c6]
            exact (ih left (b + 1) v (E + 1) ((hI).mono (T' := T) (E' := E + 1) (by omega) (by omega) (by omega) (by omega)) (by show 0 ≤ left ∧ left ≤ 40; omega) (by show 0 ≤ (b + 1) ∧ (b + 1) ≤ 100; omega) (by first | exact hJ | (intro h0; omega)) (by omega) (by show 0 ≤ o ∧ o ≤ 19; omega) (by show -2147483648 ≤ r ∧ r < 2147483648; omega)).mono (by omega) (by omega) (by omega) (by omega)
        · rw [l_draws_6, if_neg c1, if_neg c2, if_neg c4]
          exact (ih left (b + 1) v (E + 1) ((hI).mono (T' := T) (E' := E + 1) (by omega) (by omega) (by omega) (by omega)) (by show 0 ≤ left ∧ left ≤ 40; omega) (by show 0 ≤ (b + 1) ∧ (b + 1) ≤ 100; omega) (by first | exact hJ | (intro h0; omega)) (by omega) (by show 0 ≤ o ∧ o ≤ 19; omega) (by show -2147483648 ≤ r ∧ r < 2147483648; omega)).mono (by omega) (by omega) (by omega) (by omega)
def f_draws (o r a : Int) (v : Vw) : Vw :=
  (l_draws_6 o r (((v 5 0) - 0).toNat + 1) a 0 v)
theorem s_X11_draws {X : Cx} {σ : Hp} {m0 : Nat} {v : Vw} {T E : Int} {o r a : Int} (hG : GM σ m0) (hI : IM v T E) (ho : 0 ≤ o ∧ o ≤ 19) (hr : -2147483648 ≤ r ∧ r < 2147483648) (ha : 0 ≤ a ∧ a ≤ 40) (hJ : 0 < a → v 9 0 + dl v ≤ 109) (hE : E + 31 ≤ 1000000000) (hb5 : v 5 0 ≤ 30) : Ct X m_X11_draws 2 [va_rf (some m0), .int (i32 o), .int (i32 r), .int (i32 a)] (Hm σ m0 v) (.inl none) (Hm σ m0 (f_draws o r a v)) := by
  have hT := hI.1
  refine Ct.of (by decide +kernel) rfl (Nat.le_of_ble_eq_true rfl) (by simp [Value.category, va_rf]) ?_
  have u5 : 0 ≤ v 5 0 ∧ v 5 0 ≤ 30 := hI.2 5 0
  have u9 : 0 ≤ v 9 0 ∧ v 9 0 ≤ 127 := hI.2 9 0
  refine Ev.iload_n (i := 3) dX11_draws_0 rfl rfl ?_
  refine Ev.istore dX11_draws_1 (by decide) ?_
  refine Ei.const dX11_draws_3 ?_
  refine Ev.istore dX11_draws_4 (by decide) ?_
  refine Ev.fgt (ls' := [some (va_rf (some m0)), some (.int (i32 o)), some (.int (i32 r)), none, some (.int (i32 a)), some (.int (i32 0)), none]) ⟨rfl, ⟨rfl, ⟨rfl, ⟨rfl, ⟨rfl, trivial⟩⟩⟩⟩⟩ ?_
  rw [f_draws]
  exact s_l_draws_6 hG  (((v 5 0) - 0).toNat + 1) a 0 v E hI (by show 0 ≤ a ∧ a ≤ 40; omega) (by show 0 ≤ 0 ∧ 0 ≤ 100; omega) (by exact hJ) (by omega) (by show 0 ≤ o ∧ o ≤ 19; omega) (by show -2147483648 ≤ r ∧ r < 2147483648; omega) (by show ((v 5 0) - 0).toNat < (((v 5 0) - 0).toNat + 1); omega)
theorem i_draws {v : Vw} {T E : Int} {o r a : Int} (hI : IM v T E) (ho : 0 ≤ o ∧ o ≤ 19) (hr : -2147483648 ≤ r ∧ r < 2147483648) (ha : 0 ≤ a ∧ a ≤ 40) (hJ : 0 < a → v 9 0 + dl v ≤ 109) (hE : E + 31 ≤ 1000000000) (hb5 : v 5 0 ≤ 30) : IM (f_draws o r a v) T (E + 31) := by
  have hT := hI.1
  have u5 : 0 ≤ v 5 0 ∧ v 5 0 ≤ 30 := hI.2 5 0
  have u9 : 0 ≤ v 9 0 ∧ v 9 0 ≤ 127 := hI.2 9 0
  rw [f_draws]
  exact (i_l_draws_6  (((v 5 0) - 0).toNat + 1) a 0 v E hI (by show 0 ≤ a ∧ a ≤ 40; omega) (by show 0 ≤ 0 ∧ 0 ≤ 100; omega) (by exact hJ) (by omega) (by show 0 ≤ o ∧ o ≤ 19; omega) (by show -2147483648 ≤ r ∧ r < 2147483648; omega)).mono (by omega) (by omega) (by omega) (by omega)
theorem fr_draws {o r a : Int} {v : Vw} (fk : Nat) (fi : Int) (hk : fk ≠ 9 ∧ fk ≠ 10 ∧ fk ≠ 15 ∧ fk ≠ 18 ∧ fk ≠ 28 ∧ fk ≠ 31 ∧ fk ≠ 44 ∧ fk ≠ 45 ∧ fk ≠ 46) : (f_draws o r a v) fk fi = v fk fi := by
  rw [f_draws]
  exact (fr_l_draws_6 (((v 5 0) - 0).toNat + 1) a 0 v fk fi (by omega)).trans rfl
