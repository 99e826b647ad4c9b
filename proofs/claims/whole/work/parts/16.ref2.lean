/-! the reference: forecasts (written by wip/whole/mk16.py) -/
def f_frees (w : Int) (v : Vw) : Vw :=
  if (v 15 w) = 1 then
    if (v 28 (v 16 w)) = 0 then
      if (v 15 w) = 0 then
        (upv (upv v 42 w (v 8 0)) 43 w (v 19 w))
      else
        if (v 15 w) = 3 then
          (upv (upv v 42 w ((v 8 0) + (v 17 w))) 43 w (v 19 w))
        else
          (upv (upv v 42 w (((v 8 0) + (v 30 (v 16 w))) + 2)) 43 w (v 19 w))
    else
      if (v 15 w) = 0 then
        (upv (upv v 42 w (v 8 0)) 43 w (v 19 w))
      else
        if (v 15 w) = 3 then
          (upv (upv v 42 w ((v 8 0) + (v 17 w))) 43 w (v 19 w))
        else
          (upv (upv v 42 w ((v 8 0) + 2)) 43 w (v 19 w))
  else
    if (v 15 w) = 0 then
      (upv (upv v 42 w (v 8 0)) 43 w (v 19 w))
    else
      if (v 15 w) = 3 then
        (upv (upv v 42 w ((v 8 0) + (v 17 w))) 43 w (v 19 w))
      else
        (upv (upv v 42 w ((v 8 0) + 2)) 43 w (v 19 w))
theorem s_X11_frees {X : Cx} {σ : Hp} {m0 : Nat} {v : Vw} {T E : Int} {w : Int} (hG : GM σ m0) (hI : IM v T E) (hw : 0 ≤ w ∧ w ≤ 7) : Ct X m_X11_frees 1 [va_rf (some m0), .int (i32 w)] (Hm σ m0 v) (.inl none) (Hm σ m0 (f_frees w v)) := by
  have hT := hI.1
  refine Ct.of (by decide +kernel) rfl (Nat.le_of_ble_eq_true rfl) (by simp [Value.category, va_rf]) ?_
  refine Ev.aload_n (i := 0) dX11_frees_0 rfl rfl ?_
  refine Em.gA (k := 16) hG (by decide) (by decide) (tb6 (i := 226) rfl) rfl rfl dX11_frees_1 ?_
  refine Ev.iload_n (i := 1) dX11_frees_4 rfl rfl ?_
  have q1 : 0 ≤ v 16 w ∧ v 16 w ≤ 29 := hI.2 16 w
  refine Ex.iald (k := 16) (v 16 w) rfl hG (by decide) (by decide) rfl (by omega) (by show _ < ((8 : Nat) : Int); omega) (by decide) dX11_frees_5 ?_
  refine Ev.istore_n (i := 2) dX11_frees_6 rfl (by decide) ?_
  refine Ev.aload_n (i := 0) dX11_frees_7 rfl rfl ?_
  refine Em.gA (k := 15) hG (by decide) (by decide) (tb6 (i := 225) rfl) rfl rfl dX11_frees_8 ?_
  refine Ev.iload_n (i := 1) dX11_frees_11 rfl rfl ?_
  have q2 : 0 ≤ v 15 w ∧ v 15 w ≤ 3 := hI.2 15 w
  refine Ex.iald (k := 15) (v 15 w) rfl hG (by decide) (by decide) rfl (by omega) (by show _ < ((8 : Nat) : Int); omega) (by decide) dX11_frees_12 ?_
  refine Ei.const dX11_frees_13 ?_
  refine Ex.icmp_ne (tgt := 30) dX11_frees_14 (by decide) ⟨by omega, by omega⟩ ⟨by omega, by omega⟩ (fun c3 => ?_) (fun c3 => ?_)
  · refine Ev.aload_n (i := 0) dX11_frees_17 rfl rfl ?_
    refine Em.gA (k := 28) hG (by decide) (by decide) (tb6 (i := 238) rfl) rfl rfl dX11_frees_18 ?_
    refine Ev.iload_n (i := 2) dX11_frees_21 rfl rfl ?_
    have q4 : 0 ≤ v 28 (v 16 w) ∧ v 28 (v 16 w) ≤ 4 := hI.2 28 (v 16 w)
    refine Ex.iald (k := 28) (v 28 (v 16 w)) rfl hG (by decide) (by decide) rfl (by omega) (by show _ < ((30 : Nat) : Int); omega) (by decide) dX11_frees_22 ?_
    refine Ex.if_ne (tgt := 30) dX11_frees_23 (by decide) ⟨by omega, by omega⟩ (fun c5 => ?_) (fun c5 => ?_)
    · refine Ei.const dX11_frees_26 ?_
      refine Ev.goto (tgt := 31) dX11_frees_27 (by decide) ?_
      refine Ev.istore_n (i := 3) dX11_frees_31 rfl (by decide) ?_
      refine Ev.aload_n (i := 0) dX11_frees_32 rfl rfl ?_
      refine Em.gA (k := 42) hG (by decide) (by decide) (tb7 (i := 12) rfl) rfl rfl dX11_frees_33 ?_
      refine Ev.iload_n (i := 1) dX11_frees_36 rfl rfl ?_
      refine Ev.aload_n (i := 0) dX11_frees_37 rfl rfl ?_
      refine Em.gA (k := 15) hG (by decide) (by decide) (tb6 (i := 225) rfl) rfl rfl dX11_frees_38 ?_
      refine Ev.iload_n (i := 1) dX11_frees_41 rfl rfl ?_
      refine Ex.iald (k := 15) (v 15 w) rfl hG (by decide) (by decide) rfl (by omega) (by show _ < ((8 : Nat) : Int); omega) (by decide) dX11_frees_42 ?_
      refine Ex.if_ne (tgt := 53) dX11_frees_43 (by decide) ⟨by omega, by omega⟩ (fun c6 => ?_) (fun c6 => ?_)
      · refine Ev.aload_n (i := 0) dX11_frees_46 rfl rfl ?_
        have q7 : 0 ≤ v 8 0 ∧ v 8 0 ≤ T := hI.2 8 0
        refine Ex.gS (k := 8) (v 8 0) rfl hG (by decide) (tb6 (i := 218) rfl) rfl rfl dX11_frees_47 ?_
        refine Ev.goto (tgt := 103) dX11_frees_50 (by decide) ?_
        refine Em.iast (k := 42) hG (by decide) (by decide) rfl (by omega) (by show _ < ((8 : Nat) : Int); omega) (by decide) dX11_frees_103 ?_
        refine Ev.aload_n (i := 0) dX11_frees_104 rfl rfl ?_
        refine Em.gA (k := 43) hG (by decide) (by decide) (tb7 (i := 13) rfl) rfl rfl dX11_frees_105 ?_
        refine Ev.iload_n (i := 1) dX11_frees_108 rfl rfl ?_
        refine Ev.aload_n (i := 0) dX11_frees_109 rfl rfl ?_
        refine Em.gA (k := 19) hG (by decide) (by decide) (tb6 (i := 229) rfl) rfl rfl dX11_frees_110 ?_
        refine Ev.iload_n (i := 1) dX11_frees_113 rfl rfl ?_
        have q8 : -1 ≤ v 19 w ∧ v 19 w ≤ 3 := hI.2 19 w
        refine Ex.iald (k := 19) (v 19 w) rfl hG (by decide) (by decide) rfl (by omega) (by show _ < ((8 : Nat) : Int); omega) (by decide) dX11_frees_114 ?_
        refine Em.iast (k := 43) hG (by decide) (by decide) rfl (by omega) (by show _ < ((8 : Nat) : Int); omega) (by decide) dX11_frees_115 ?_
        exact Ev.vretE rfl dX11_frees_116 rfl (by first | rfl | (rw [f_frees, if_pos c3, if_pos c5, if_pos c6]; try rfl))
      · refine Ev.aload_n (i := 0) dX11_frees_53 rfl rfl ?_
        refine Em.gA (k := 15) hG (by decide) (by decide) (tb6 (i := 225) rfl) rfl rfl dX11_frees_54 ?_
        refine Ev.iload_n (i := 1) dX11_frees_57 rfl rfl ?_
        refine Ex.iald (k := 15) (v 15 w) rfl hG (by decide) (by decide) rfl (by omega) (by show _ < ((8 : Nat) : Int); omega) (by decide) dX11_frees_58 ?_
        refine Ei.const dX11_frees_59 ?_
        refine Ex.icmp_ne (tgt := 77) dX11_frees_60 (by decide) ⟨by omega, by omega⟩ ⟨by omega, by omega⟩ (fun c9 => ?_) (fun c9 => ?_)
        · refine Ev.aload_n (i := 0) dX11_frees_63 rfl rfl ?_
          have q10 : 0 ≤ v 8 0 ∧ v 8 0 ≤ T := hI.2 8 0
          refine Ex.gS (k := 8) (v 8 0) rfl hG (by decide) (tb6 (i := 218) rfl) rfl rfl dX11_frees_64 ?_
          refine Ev.aload_n (i := 0) dX11_frees_67 rfl rfl ?_
          refine Em.gA (k := 17) hG (by decide) (by decide) (tb6 (i := 227) rfl) rfl rfl dX11_frees_68 ?_
          refine Ev.iload_n (i := 1) dX11_frees_71 rfl rfl ?_
          have q11 : -T ≤ v 17 w ∧ v 17 w ≤ 2 := hI.2 17 w
          refine Ex.iald (k := 17) (v 17 w) rfl hG (by decide) (by decide) rfl (by omega) (by show _ < ((8 : Nat) : Int); omega) (by decide) dX11_frees_72 ?_
          refine Ei.add dX11_frees_73 ?_
          refine Ev.goto (tgt := 103) dX11_frees_74 (by decide) ?_
          refine Em.iast (k := 42) hG (by decide) (by decide) rfl (by omega) (by show _ < ((8 : Nat) : Int); omega) (by decide) dX11_frees_103 ?_
          refine Ev.aload_n (i := 0) dX11_frees_104 rfl rfl ?_
          refine Em.gA (k := 43) hG (by decide) (by decide) (tb7 (i := 13) rfl) rfl rfl dX11_frees_105 ?_
          refine Ev.iload_n (i := 1) dX11_frees_108 rfl rfl ?_
          refine Ev.aload_n (i := 0) dX11_frees_109 rfl rfl ?_
          refine Em.gA (k := 19) hG (by decide) (by decide) (tb6 (i := 229) rfl) rfl rfl dX11_frees_110 ?_
          refine Ev.iload_n (i := 1) dX11_frees_113 rfl rfl ?_
          have q12 : -1 ≤ v 19 w ∧ v 19 w ≤ 3 := hI.2 19 w
          refine Ex.iald (k := 19) (v 19 w) rfl hG (by decide) (by decide) rfl (by omega) (by show _ < ((8 : Nat) : Int); omega) (by decide) dX11_frees_114 ?_
          refine Em.iast (k := 43) hG (by decide) (by decide) rfl (by omega) (by show _ < ((8 : Nat) : Int); omega) (by decide) dX11_frees_115 ?_
          exact Ev.vretE rfl dX11_frees_116 rfl (by first | rfl | (rw [f_frees, if_pos c3, if_pos c5, if_neg c6, if_pos c9]; try rfl))
        · refine Ev.iload_n (i := 3) dX11_frees_77 rfl rfl ?_
          refine Ei.if_eq_f (tgt := 97) dX11_frees_78 (by decide) ⟨by omega, by omega⟩ (by omega) ?_
          refine Ev.aload_n (i := 0) dX11_frees_81 rfl rfl ?_
          have q13 : 0 ≤ v 8 0 ∧ v 8 0 ≤ T := hI.2 8 0
          refine Ex.gS (k := 8) (v 8 0) rfl hG (by decide) (tb6 (i := 218) rfl) rfl rfl dX11_frees_82 ?_
          refine Ev.aload_n (i := 0) dX11_frees_85 rfl rfl ?_
          refine Em.gA (k := 30) hG (by decide) (by decide) (tb7 (i := 0) rfl) rfl rfl dX11_frees_86 ?_
          refine Ev.iload_n (i := 2) dX11_frees_89 rfl rfl ?_
          have q14 : -T ≤ v 30 (v 16 w) ∧ v 30 (v 16 w) ≤ 15 := hI.2 30 (v 16 w)
          refine Ex.iald (k := 30) (v 30 (v 16 w)) rfl hG (by decide) (by decide) rfl (by omega) (by show _ < ((30 : Nat) : Int); omega) (by decide) dX11_frees_90 ?_
          refine Ei.add dX11_frees_91 ?_
          refine Ei.const dX11_frees_92 ?_
          refine Ei.add dX11_frees_93 ?_
          refine Ev.goto (tgt := 103) dX11_frees_94 (by decide) ?_
          refine Em.iast (k := 42) hG (by decide) (by decide) rfl (by omega) (by show _ < ((8 : Nat) : Int); omega) (by decide) dX11_frees_103 ?_
          refine Ev.aload_n (i := 0) dX11_frees_104 rfl rfl ?_
          refine Em.gA (k := 43) hG (by decide) (by decide) (tb7 (i := 13) rfl) rfl rfl dX11_frees_105 ?_
          refine Ev.iload_n (i := 1) dX11_frees_108 rfl rfl ?_
          refine Ev.aload_n (i := 0) dX11_frees_109 rfl rfl ?_
          refine Em.gA (k := 19) hG (by decide) (by decide) (tb6 (i := 229) rfl) rfl rfl dX11_frees_110 ?_
          refine Ev.iload_n (i := 1) dX11_frees_113 rfl rfl ?_
          have q15 : -1 ≤ v 19 w ∧ v 19 w ≤ 3 := hI.2 19 w
          refine Ex.iald (k := 19) (v 19 w) rfl hG (by decide) (by decide) rfl (by omega) (by show _ < ((8 : Nat) : Int); omega) (by decide) dX11_frees_114 ?_
          refine Em.iast (k := 43) hG (by decide) (by decide) rfl (by omega) (by show _ < ((8 : Nat) : Int); omega) (by decide) dX11_frees_115 ?_
          exact Ev.vretE rfl dX11_frees_116 rfl (by first | rfl | (rw [f_frees, if_pos c3, if_pos c5, if_neg c6, if_neg c9]; try rfl))
    · refine Ei.const dX11_frees_30 ?_
      refine Ev.istore_n (i := 3) dX11_frees_31 rfl (by decide) ?_
      refine Ev.aload_n (i := 0) dX11_frees_32 rfl rfl ?_
      refine Em.gA (k := 42) hG (by decide) (by decide) (tb7 (i := 12) rfl) rfl rfl dX11_frees_33 ?_
      refine Ev.iload_n (i := 1) dX11_frees_36 rfl rfl ?_
      refine Ev.aload_n (i := 0) dX11_frees_37 rfl rfl ?_
      refine Em.gA (k := 15) hG (by decide) (by decide) (tb6 (i := 225) rfl) rfl rfl dX11_frees_38 ?_
      refine Ev.iload_n (i := 1) dX11_frees_41 rfl rfl ?_
      refine Ex.iald (k := 15) (v 15 w) rfl hG (by decide) (by decide) rfl (by omega) (by show _ < ((8 : Nat) : Int); omega) (by decide) dX11_frees_42 ?_
      refine Ex.if_ne (tgt := 53) dX11_frees_43 (by decide) ⟨by omega, by omega⟩ (fun c16 => ?_) (fun c16 => ?_)
      · refine Ev.aload_n (i := 0) dX11_frees_46 rfl rfl ?_
        have q17 : 0 ≤ v 8 0 ∧ v 8 0 ≤ T := hI.2 8 0
        refine Ex.gS (k := 8) (v 8 0) rfl hG (by decide) (tb6 (i := 218) rfl) rfl rfl dX11_frees_47 ?_
        refine Ev.goto (tgt := 103) dX11_frees_50 (by decide) ?_
        refine Em.iast (k := 42) hG (by decide) (by decide) rfl (by omega) (by show _ < ((8 : Nat) : Int); omega) (by decide) dX11_frees_103 ?_
        refine Ev.aload_n (i := 0) dX11_frees_104 rfl rfl ?_
        refine Em.gA (k := 43) hG (by decide) (by decide) (tb7 (i := 13) rfl) rfl rfl dX11_frees_105 ?_
        refine Ev.iload_n (i := 1) dX11_frees_108 rfl rfl ?_
        refine Ev.aload_n (i := 0) dX11_frees_109 rfl rfl ?_
        refine Em.gA (k := 19) hG (by decide) (by decide) (tb6 (i := 229) rfl) rfl rfl dX11_frees_110 ?_
        refine Ev.iload_n (i := 1) dX11_frees_113 rfl rfl ?_
        have q18 : -1 ≤ v 19 w ∧ v 19 w ≤ 3 := hI.2 19 w
        refine Ex.iald (k := 19) (v 19 w) rfl hG (by decide) (by decide) rfl (by omega) (by show _ < ((8 : Nat) : Int); omega) (by decide) dX11_frees_114 ?_
        refine Em.iast (k := 43) hG (by decide) (by decide) rfl (by omega) (by show _ < ((8 : Nat) : Int); omega) (by decide) dX11_frees_115 ?_
        exact Ev.vretE rfl dX11_frees_116 rfl (by first | rfl | (rw [f_frees, if_pos c3, if_neg c5, if_pos c16]; try rfl))
      · refine Ev.aload_n (i := 0) dX11_frees_53 rfl rfl ?_
        refine Em.gA (k := 15) hG (by decide) (by decide) (tb6 (i := 225) rfl) rfl rfl dX11_frees_54 ?_
        refine Ev.iload_n (i := 1) dX11_frees_57 rfl rfl ?_
        refine Ex.iald (k := 15) (v 15 w) rfl hG (by decide) (by decide) rfl (by omega) (by show _ < ((8 : Nat) : Int); omega) (by decide) dX11_frees_58 ?_
        refine Ei.const dX11_frees_59 ?_
        refine Ex.icmp_ne (tgt := 77) dX11_frees_60 (by decide) ⟨by omega, by omega⟩ ⟨by omega, by omega⟩ (fun c19 => ?_) (fun c19 => ?_)
        · refine Ev.aload_n (i := 0) dX11_frees_63 rfl rfl ?_
          have q20 : 0 ≤ v 8 0 ∧ v 8 0 ≤ T := hI.2 8 0
          refine Ex.gS (k := 8) (v 8 0) rfl hG (by decide) (tb6 (i := 218) rfl) rfl rfl dX11_frees_64 ?_
          refine Ev.aload_n (i := 0) dX11_frees_67 rfl rfl ?_
          refine Em.gA (k := 17) hG (by decide) (by decide) (tb6 (i := 227) rfl) rfl rfl dX11_frees_68 ?_
          refine Ev.iload_n (i := 1) dX11_frees_71 rfl rfl ?_
          have q21 : -T ≤ v 17 w ∧ v 17 w ≤ 2 := hI.2 17 w
          refine Ex.iald (k := 17) (v 17 w) rfl hG (by decide) (by decide) rfl (by omega) (by show _ < ((8 : Nat) : Int); omega) (by decide) dX11_frees_72 ?_
          refine Ei.add dX11_frees_73 ?_
          refine Ev.goto (tgt := 103) dX11_frees_74 (by decide) ?_
          refine Em.iast (k := 42) hG (by decide) (by decide) rfl (by omega) (by show _ < ((8 : Nat) : Int); omega) (by decide) dX11_frees_103 ?_
          refine Ev.aload_n (i := 0) dX11_frees_104 rfl rfl ?_
          refine Em.gA (k := 43) hG (by decide) (by decide) (tb7 (i := 13) rfl) rfl rfl dX11_frees_105 ?_
          refine Ev.iload_n (i := 1) dX11_frees_108 rfl rfl ?_
          refine Ev.aload_n (i := 0) dX11_frees_109 rfl rfl ?_
          refine Em.gA (k := 19) hG (by decide) (by decide) (tb6 (i := 229) rfl) rfl rfl dX11_frees_110 ?_
          refine Ev.iload_n (i := 1) dX11_frees_113 rfl rfl ?_
          have q22 : -1 ≤ v 19 w ∧ v 19 w ≤ 3 := hI.2 19 w
          refine Ex.iald (k := 19) (v 19 w) rfl hG (by decide) (by decide) rfl (by omega) (by show _ < ((8 : Nat) : Int); omega) (by decide) dX11_frees_114 ?_
          refine Em.iast (k := 43) hG (by decide) (by decide) rfl (by omega) (by show _ < ((8 : Nat) : Int); omega) (by decide) dX11_frees_115 ?_
          exact Ev.vretE rfl dX11_frees_116 rfl (by first | rfl | (rw [f_frees, if_pos c3, if_neg c5, if_neg c16, if_pos c19]; try rfl))
        · refine Ev.iload_n (i := 3) dX11_frees_77 rfl rfl ?_
          refine Ei.if_eq_t (tgt := 97) dX11_frees_78 (by decide) ⟨by omega, by omega⟩ (by omega) ?_
          refine Ev.aload_n (i := 0) dX11_frees_97 rfl rfl ?_
          have q23 : 0 ≤ v 8 0 ∧ v 8 0 ≤ T := hI.2 8 0
          refine Ex.gS (k := 8) (v 8 0) rfl hG (by decide) (tb6 (i := 218) rfl) rfl rfl dX11_frees_98 ?_
          refine Ei.const dX11_frees_101 ?_
          refine Ei.add dX11_frees_102 ?_
          refine Em.iast (k := 42) hG (by decide) (by decide) rfl (by omega) (by show _ < ((8 : Nat) : Int); omega) (by decide) dX11_frees_103 ?_
          refine Ev.aload_n (i := 0) dX11_frees_104 rfl rfl ?_
          refine Em.gA (k := 43) hG (by decide) (by decide) (tb7 (i := 13) rfl) rfl rfl dX11_frees_105 ?_
          refine Ev.iload_n (i := 1) dX11_frees_108 rfl rfl ?_
          refine Ev.aload_n (i := 0) dX11_frees_109 rfl rfl ?_
          refine Em.gA (k := 19) hG (by decide) (by decide) (tb6 (i := 229) rfl) rfl rfl dX11_frees_110 ?_
          refine Ev.iload_n (i := 1) dX11_frees_113 rfl rfl ?_
          have q24 : -1 ≤ v 19 w ∧ v 19 w ≤ 3 := hI.2 19 w
          refine Ex.iald (k := 19) (v 19 w) rfl hG (by decide) (by decide) rfl (by omega) (by show _ < ((8 : Nat) : Int); omega) (by decide) dX11_frees_114 ?_
          refine Em.iast (k := 43) hG (by decide) (by decide) rfl (by omega) (by show _ < ((8 : Nat) : Int); omega) (by decide) dX11_frees_115 ?_
          exact Ev.vretE rfl dX11_frees_116 rfl (by first | rfl | (rw [f_frees, if_pos c3, if_neg c5, if_neg c16, if_neg c19]; try rfl))
  · refine Ei.const dX11_frees_30 ?_
    refine Ev.istore_n (i := 3) dX11_frees_31 rfl (by decide) ?_
    refine Ev.aload_n (i := 0) dX11_frees_32 rfl rfl ?_
    refine Em.gA (k := 42) hG (by decide) (by decide) (tb7 (i := 12) rfl) rfl rfl dX11_frees_33 ?_
    refine Ev.iload_n (i := 1) dX11_frees_36 rfl rfl ?_
    refine Ev.aload_n (i := 0) dX11_frees_37 rfl rfl ?_
    refine Em.gA (k := 15) hG (by decide) (by decide) (tb6 (i := 225) rfl) rfl rfl dX11_frees_38 ?_
    refine Ev.iload_n (i := 1) dX11_frees_41 rfl rfl ?_
    refine Ex.iald (k := 15) (v 15 w) rfl hG (by decide) (by decide) rfl (by omega) (by show _ < ((8 : Nat) : Int); omega) (by decide) dX11_frees_42 ?_
    refine Ex.if_ne (tgt := 53) dX11_frees_43 (by decide) ⟨by omega, by omega⟩ (fun c25 => ?_) (fun c25 => ?_)
    · refine Ev.aload_n (i := 0) dX11_frees_46 rfl rfl ?_
      have q26 : 0 ≤ v 8 0 ∧ v 8 0 ≤ T := hI.2 8 0
      refine Ex.gS (k := 8) (v 8 0) rfl hG (by decide) (tb6 (i := 218) rfl) rfl rfl dX11_frees_47 ?_
      refine Ev.goto (tgt := 103) dX11_frees_50 (by decide) ?_
      refine Em.iast (k := 42) hG (by decide) (by decide) rfl (by omega) (by show _ < ((8 : Nat) : Int); omega) (by decide) dX11_frees_103 ?_
      refine Ev.aload_n (i := 0) dX11_frees_104 rfl rfl ?_
      refine Em.gA (k := 43) hG (by decide) (by decide) (tb7 (i := 13) rfl) rfl rfl dX11_frees_105 ?_
      refine Ev.iload_n (i := 1) dX11_frees_108 rfl rfl ?_
      refine Ev.aload_n (i := 0) dX11_frees_109 rfl rfl ?_
      refine Em.gA (k := 19) hG (by decide) (by decide) (tb6 (i := 229) rfl) rfl rfl dX11_frees_110 ?_
      refine Ev.iload_n (i := 1) dX11_frees_113 rfl rfl ?_
      have q27 : -1 ≤ v 19 w ∧ v 19 w ≤ 3 := hI.2 19 w
      refine Ex.iald (k := 19) (v 19 w) rfl hG (by decide) (by decide) rfl (by omega) (by show _ < ((8 : Nat) : Int); omega) (by decide) dX11_frees_114 ?_
      refine Em.iast (k := 43) hG (by decide) (by decide) rfl (by omega) (by show _ < ((8 : Nat) : Int); omega) (by decide) dX11_frees_115 ?_
      exact Ev.vretE rfl dX11_frees_116 rfl (by first | rfl | (rw [f_frees, if_neg c3, if_pos c25]; try rfl))
    · refine Ev.aload_n (i := 0) dX11_frees_53 rfl rfl ?_
      refine Em.gA (k := 15) hG (by decide) (by decide) (tb6 (i := 225) rfl) rfl rfl dX11_frees_54 ?_
      refine Ev.iload_n (i := 1) dX11_frees_57 rfl rfl ?_
      refine Ex.iald (k := 15) (v 15 w) rfl hG (by decide) (by decide) rfl (by omega) (by show _ < ((8 : Nat) : Int); omega) (by decide) dX11_frees_58 ?_
      refine Ei.const dX11_frees_59 ?_
      refine Ex.icmp_ne (tgt := 77) dX11_frees_60 (by decide) ⟨by omega, by omega⟩ ⟨by omega, by omega⟩ (fun c28 => ?_) (fun c28 => ?_)
      · refine Ev.aload_n (i := 0) dX11_frees_63 rfl rfl ?_
        have q29 : 0 ≤ v 8 0 ∧ v 8 0 ≤ T := hI.2 8 0
        refine Ex.gS (k := 8) (v 8 0) rfl hG (by decide) (tb6 (i := 218) rfl) rfl rfl dX11_frees_64 ?_
        refine Ev.aload_n (i := 0) dX11_frees_67 rfl rfl ?_
        refine Em.gA (k := 17) hG (by decide) (by decide) (tb6 (i := 227) rfl) rfl rfl dX11_frees_68 ?_
        refine Ev.iload_n (i := 1) dX11_frees_71 rfl rfl ?_
        have q30 : -T ≤ v 17 w ∧ v 17 w ≤ 2 := hI.2 17 w
        refine Ex.iald (k := 17) (v 17 w) rfl hG (by decide) (by decide) rfl (by omega) (by show _ < ((8 : Nat) : Int); omega) (by decide) dX11_frees_72 ?_
        refine Ei.add dX11_frees_73 ?_
        refine Ev.goto (tgt := 103) dX11_frees_74 (by decide) ?_
        refine Em.iast (k := 42) hG (by decide) (by decide) rfl (by omega) (by show _ < ((8 : Nat) : Int); omega) (by decide) dX11_frees_103 ?_
        refine Ev.aload_n (i := 0) dX11_frees_104 rfl rfl ?_
        refine Em.gA (k := 43) hG (by decide) (by decide) (tb7 (i := 13) rfl) rfl rfl dX11_frees_105 ?_
        refine Ev.iload_n (i := 1) dX11_frees_108 rfl rfl ?_
        refine Ev.aload_n (i := 0) dX11_frees_109 rfl rfl ?_
        refine Em.gA (k := 19) hG (by decide) (by decide) (tb6 (i := 229) rfl) rfl rfl dX11_frees_110 ?_
        refine Ev.iload_n (i := 1) dX11_frees_113 rfl rfl ?_
        have q31 : -1 ≤ v 19 w ∧ v 19 w ≤ 3 := hI.2 19 w
        refine Ex.iald (k := 19) (v 19 w) rfl hG (by decide) (by decide) rfl (by omega) (by show _ < ((8 : Nat) : Int); omega) (by decide) dX11_frees_114 ?_
        refine Em.iast (k := 43) hG (by decide) (by decide) rfl (by omega) (by show _ < ((8 : Nat) : Int); omega) (by decide) dX11_frees_115 ?_
        exact Ev.vretE rfl dX11_frees_116 rfl (by first | rfl | (rw [f_frees, if_neg c3, if_neg c25, if_pos c28]; try rfl))
      · refine Ev.iload_n (i := 3) dX11_frees_77 rfl rfl ?_
        refine Ei.if_eq_t (tgt := 97) dX11_frees_78 (by decide) ⟨by omega, by omega⟩ (by omega) ?_
        refine Ev.aload_n (i := 0) dX11_frees_97 rfl rfl ?_
        have q32 : 0 ≤ v 8 0 ∧ v 8 0 ≤ T := hI.2 8 0
        refine Ex.gS (k := 8) (v 8 0) rfl hG (by decide) (tb6 (i := 218) rfl) rfl rfl dX11_frees_98 ?_
        refine Ei.const dX11_frees_101 ?_
        refine Ei.add dX11_frees_102 ?_
        refine Em.iast (k := 42) hG (by decide) (by decide) rfl (by omega) (by show _ < ((8 : Nat) : Int); omega) (by decide) dX11_frees_103 ?_
        refine Ev.aload_n (i := 0) dX11_frees_104 rfl rfl ?_
        refine Em.gA (k := 43) hG (by decide) (by decide) (tb7 (i := 13) rfl) rfl rfl dX11_frees_105 ?_
        refine Ev.iload_n (i := 1) dX11_frees_108 rfl rfl ?_
        refine Ev.aload_n (i := 0) dX11_frees_109 rfl rfl ?_
        refine Em.gA (k := 19) hG (by decide) (by decide) (tb6 (i := 229) rfl) rfl rfl dX11_frees_110 ?_
        refine Ev.iload_n (i := 1) dX11_frees_113 rfl rfl ?_
        have q33 : -1 ≤ v 19 w ∧ v 19 w ≤ 3 := hI.2 19 w
        refine Ex.iald (k := 19) (v 19 w) rfl hG (by decide) (by decide) rfl (by omega) (by show _ < ((8 : Nat) : Int); omega) (by decide) dX11_frees_114 ?_
        refine Em.iast (k := 43) hG (by decide) (by decide) rfl (by omega) (by show _ < ((8 : Nat) : Int); omega) (by decide) dX11_frees_115 ?_
        exact Ev.vretE rfl dX11_frees_116 rfl (by first | rfl | (rw [f_frees, if_neg c3, if_neg c25, if_neg c28]; try rfl))
theorem i_frees {v : Vw} {T E : Int} {w : Int} (hI : IM v T E) (hw : 0 ≤ w ∧ w ≤ 7) : IM (f_frees w v) T (E) := by
  have hT := hI.1
  have q1 : 0 ≤ v 16 w ∧ v 16 w ≤ 29 := hI.2 16 w
  have q2 : 0 ≤ v 15 w ∧ v 15 w ≤ 3 := hI.2 15 w
  by_cases c3 : (v 15 w) = 1
  · have q4 : 0 ≤ v 28 (v 16 w) ∧ v 28 (v 16 w) ≤ 4 := hI.2 28 (v 16 w)
    by_cases c5 : (v 28 (v 16 w)) = 0
    · by_cases c6 : (v 15 w) = 0
      · have q7 : 0 ≤ v 8 0 ∧ v 8 0 ≤ T := hI.2 8 0
        have q8 : -1 ≤ v 19 w ∧ v 19 w ≤ 3 := hI.2 19 w
        rw [f_frees, if_pos c3, if_pos c5, if_pos c6]
        exact ((hI.up 42 w (v 8 0) (by show -T ≤ (v 8 0) ∧ (v 8 0) ≤ T + 300; omega)).up 43 w (v 19 w) (by show -1 ≤ (v 19 w) ∧ (v 19 w) ≤ 3; omega))
      · by_cases c9 : (v 15 w) = 3
        · have q10 : 0 ≤ v 8 0 ∧ v 8 0 ≤ T := hI.2 8 0
          have q11 : -T ≤ v 17 w ∧ v 17 w ≤ 2 := hI.2 17 w
          have q12 : -1 ≤ v 19 w ∧ v 19 w ≤ 3 := hI.2 19 w
          rw [f_frees, if_pos c3, if_pos c5, if_neg c6, if_pos c9]
          exact ((hI.up 42 w ((v 8 0) + (v 17 w)) (by show -T ≤ ((v 8 0) + (v 17 w)) ∧ ((v 8 0) + (v 17 w)) ≤ T + 300; omega)).up 43 w (v 19 w) (by show -1 ≤ (v 19 w) ∧ (v 19 w) ≤ 3; omega))
        · have q13 : 0 ≤ v 8 0 ∧ v 8 0 ≤ T := hI.2 8 0
          have q14 : -T ≤ v 30 (v 16 w) ∧ v 30 (v 16 w) ≤ 15 := hI.2 30 (v 16 w)
          have q15 : -1 ≤ v 19 w ∧ v 19 w ≤ 3 := hI.2 19 w
          rw [f_frees, if_pos c3, if_pos c5, if_neg c6, if_neg c9]
          exact ((hI.up 42 w (((v 8 0) + (v 30 (v 16 w))) + 2) (by show -T ≤ (((v 8 0) + (v 30 (v 16 w))) + 2) ∧ (((v 8 0) + (v 30 (v 16 w))) + 2) ≤ T + 300; omega)).up 43 w (v 19 w) (by show -1 ≤ (v 19 w) ∧ (v 19 w) ≤ 3; omega))
    · by_cases c16 : (v 15 w) = 0
      · have q17 : 0 ≤ v 8 0 ∧ v 8 0 ≤ T := hI.2 8 0
        have q18 : -1 ≤ v 19 w ∧ v 19 w ≤ 3 := hI.2 19 w
        rw [f_frees, if_pos c3, if_neg c5, if_pos c16]
        exact ((hI.up 42 w (v 8 0) (by show -T ≤ (v 8 0) ∧ (v 8 0) ≤ T + 300; omega)).up 43 w (v 19 w) (by show -1 ≤ (v 19 w) ∧ (v 19 w) ≤ 3; omega))
      · by_cases c19 : (v 15 w) = 3
        · have q20 : 0 ≤ v 8 0 ∧ v 8 0 ≤ T := hI.2 8 0
          have q21 : -T ≤ v 17 w ∧ v 17 w ≤ 2 := hI.2 17 w
          have q22 : -1 ≤ v 19 w ∧ v 19 w ≤ 3 := hI.2 19 w
          rw [f_frees, if_pos c3, if_neg c5, if_neg c16, if_pos c19]
          exact ((hI.up 42 w ((v 8 0) + (v 17 w)) (by show -T ≤ ((v 8 0) + (v 17 w)) ∧ ((v 8 0) + (v 17 w)) ≤ T + 300; omega)).up 43 w (v 19 w) (by show -1 ≤ (v 19 w) ∧ (v 19 w) ≤ 3; omega))
        · have q23 : 0 ≤ v 8 0 ∧ v 8 0 ≤ T := hI.2 8 0
          have q24 : -1 ≤ v 19 w ∧ v 19 w ≤ 3 := hI.2 19 w
          rw [f_frees, if_pos c3, if_neg c5, if_neg c16, if_neg c19]
          exact ((hI.up 42 w ((v 8 0) + 2) (by show -T ≤ ((v 8 0) + 2) ∧ ((v 8 0) + 2) ≤ T + 300; omega)).up 43 w (v 19 w) (by show -1 ≤ (v 19 w) ∧ (v 19 w) ≤ 3; omega))
  · by_cases c25 : (v 15 w) = 0
    · have q26 : 0 ≤ v 8 0 ∧ v 8 0 ≤ T := hI.2 8 0
      have q27 : -1 ≤ v 19 w ∧ v 19 w ≤ 3 := hI.2 19 w
      rw [f_frees, if_neg c3, if_pos c25]
      exact ((hI.up 42 w (v 8 0) (by show -T ≤ (v 8 0) ∧ (v 8 0) ≤ T + 300; omega)).up 43 w (v 19 w) (by show -1 ≤ (v 19 w) ∧ (v 19 w) ≤ 3; omega))
    · by_cases c28 : (v 15 w) = 3
      · have q29 : 0 ≤ v 8 0 ∧ v 8 0 ≤ T := hI.2 8 0
        have q30 : -T ≤ v 17 w ∧ v 17 w ≤ 2 := hI.2 17 w
        have q31 : -1 ≤ v 19 w ∧ v 19 w ≤ 3 := hI.2 19 w
        rw [f_frees, if_neg c3, if_neg c25, if_pos c28]
        exact ((hI.up 42 w ((v 8 0) + (v 17 w)) (by show -T ≤ ((v 8 0) + (v 17 w)) ∧ ((v 8 0) + (v 17 w)) ≤ T + 300; omega)).up 43 w (v 19 w) (by show -1 ≤ (v 19 w) ∧ (v 19 w) ≤ 3; omega))
      · have q32 : 0 ≤ v 8 0 ∧ v 8 0 ≤ T := hI.2 8 0
        have q33 : -1 ≤ v 19 w ∧ v 19 w ≤ 3 := hI.2 19 w
        rw [f_frees, if_neg c3, if_neg c25, if_neg c28]
        exact ((hI.up 42 w ((v 8 0) + 2) (by show -T ≤ ((v 8 0) + 2) ∧ ((v 8 0) + 2) ≤ T + 300; omega)).up 43 w (v 19 w) (by show -1 ≤ (v 19 w) ∧ (v 19 w) ≤ 3; omega))
theorem fr_frees {w : Int} {v : Vw} (fk : Nat) (fi : Int) (hk : fk ≠ 42 ∧ fk ≠ 43) : (f_frees w v) fk fi = v fk fi := by
  by_cases c3 : (v 15 w) = 1
  · by_cases c5 : (v 28 (v 16 w)) = 0
    · by_cases c6 : (v 15 w) = 0
      · rw [f_frees, if_pos c3, if_pos c5, if_pos c6]
        exact ((upv_nk (by omega)).trans ((upv_nk (by omega)).trans rfl))
      · by_cases c9 : (v 15 w) = 3
        · rw [f_frees, if_pos c3, if_pos c5, if_neg c6, if_pos c9]
          exact ((upv_nk (by omega)).trans ((upv_nk (by omega)).trans rfl))
        · rw [f_frees, if_pos c3, if_pos c5, if_neg c6, if_neg c9]
          exact ((upv_nk (by omega)).trans ((upv_nk (by omega)).trans rfl))
    · by_cases c16 : (v 15 w) = 0
      · rw [f_frees, if_pos c3, if_neg c5, if_pos c16]
        exact ((upv_nk (by omega)).trans ((upv_nk (by omega)).trans rfl))
      · by_cases c19 : (v 15 w) = 3
        · rw [f_frees, if_pos c3, if_neg c5, if_neg c16, if_pos c19]
          exact ((upv_nk (by omega)).trans ((upv_nk (by omega)).trans rfl))
        · rw [f_frees, if_pos c3, if_neg c5, if_neg c16, if_neg c19]
          exact ((upv_nk (by omega)).trans ((upv_nk (by omega)).trans rfl))
  · by_cases c25 : (v 15 w) = 0
    · rw [f_frees, if_neg c3, if_pos c25]
      exact ((upv_nk (by omega)).trans ((upv_nk (by omega)).trans rfl))
    · by_cases c28 : (v 15 w) = 3
      · rw [f_frees, if_neg c3, if_neg c25, if_pos c28]
        exact ((upv_nk (by omega)).trans ((upv_nk (by omega)).trans rfl))
      · rw [f_frees, if_neg c3, if_neg c25, if_neg c28]
        exact ((upv_nk (by omega)).trans ((upv_nk (by omega)).trans rfl))
theorem up_frees (w : Int) {v : Vw} {T E : Int} (hI : IM v T E) : f_frees w v 42 w ≤ T + 19 := by
  have h1 : 0 ≤ v 8 0 ∧ v 8 0 ≤ T := hI.2 8 0
  have h2 : -T ≤ v 17 w ∧ v 17 w ≤ 2 := hI.2 17 w
  have h3 : -T ≤ v 30 (v 16 w) ∧ v 30 (v 16 w) ≤ 15 := hI.2 30 (v 16 w)
  unfold f_frees
  repeat' split
  all_goals (simp [upv]; omega)
theorem ne_frees (w w' : Int) (hne : w' ≠ w) {v : Vw} : f_frees w v 42 w' = v 42 w' := by
  unfold f_frees
  repeat' split
  all_goals (simp [upv]; omega)
/-- there is a fermenter at w or behind -/
def HasG (v : Vw) (w : Int) : Prop := ∃ w0, w ≤ w0 ∧ w0 < v 2 0 ∧ v 20 w0 = 0
def HasF (v : Vw) : Prop := HasG v 0
def l_forecastOf_4 : Nat → Int → Vw → Vw
  | 0, w, v => v
  | n + 1, w, v =>
    if (v 2 0) ≤ w then
      v
    else
      (l_forecastOf_4 n (w + 1) (f_frees w v))
theorem s_l_forecastOf_4 {X : Cx} {σ : Hp} {m0 : Nat} {T E : Int} {z : Int} {kr : Nat} {o : Rs} {τ : Hp} (hG : GM σ m0) : ∀ (n : Nat) (w : Int) (v : Vw) (hI : IM v T E) (hw : 0 ≤ w ∧ w ≤ 100) (hm : (v 2 0 - w).toNat < n), Ev X m_X11_forecastOf 2 23 [some (va_rf (some m0)), some (va_rf (some (m0 + (kr - 11)))), some (.int (i32 z)), none, none, none, none] [] (Hm σ m0 (l_forecastOf_4 n w v)) o τ → Ev X m_X11_forecastOf 2 4 [some (va_rf (some m0)), some (va_rf (some (m0 + (kr - 11)))), some (.int (i32 z)), some (.int (i32 w)), none, none, none] [] (Hm σ m0 v) o τ := by
  intro n
  induction n with
  | zero =>
    intro w v hI hw hm K
    exact absurd hm (Nat.not_lt_zero _)
  | succ n ih =>
    intro w v hI hw hm K
    have hT := hI.1
    have u2 : 0 ≤ v 2 0 ∧ v 2 0 ≤ 8 := hI.2 2 0
    refine Ev.iload_n (i := 3) dX11_forecastOf_4 rfl rfl ?_
    refine Ev.aload_n (i := 0) dX11_forecastOf_5 rfl rfl ?_
    refine Ex.gS (k := 2) (v 2 0) rfl hG (by decide) (tb6 (i := 212) rfl) rfl rfl dX11_forecastOf_6 ?_
    refine Ei.icmp_ge (tgt := 23) dX11_forecastOf_9 (by decide) ⟨by omega, by omega⟩ ⟨by omega, by omega⟩ (fun c1 => ?_) (fun c1 => ?_)
    · rw [l_forecastOf_4, if_pos c1] at K
      exact Ev.fgt (ls' := [some (va_rf (some m0)), some (va_rf (some (m0 + (kr - 11)))), some (.int (i32 z)), none, none, none, none]) ⟨rfl, ⟨rfl, ⟨rfl, trivial⟩⟩⟩ K
    · refine Ev.aload_n (i := 0) dX11_forecastOf_12 rfl rfl ?_
      refine Ev.iload_n (i := 3) dX11_forecastOf_13 rfl rfl ?_
      refine Em.cv0 (As := [_]) hG k_X11_frees (tb7 (i := 209) rfl) ki_X11_frees kv_X11_frees dX11_forecastOf_14 rfl rfl (Nat.le_of_ble_eq_true rfl) (by decide) (s_X11_frees (w := w) hG hI (by show 0 ≤ w ∧ w ≤ 7; omega)) ?_
      have hJ2 := (i_frees (w := w) hI (by show 0 ≤ w ∧ w ≤ 7; omega))
      refine Ei.inc dX11_forecastOf_17 rfl (by decide) ?_
      refine Ev.goto (tgt := 4) dX11_forecastOf_20 (by decide) ?_
      have q3 : (f_frees w v) 2 0 = v 2 0 := (fr_frees (w := w) (v := v) 2 0 (by decide)).trans rfl
      rw [l_forecastOf_4, if_neg c1] at K
      exact Ev.fgt (ls' := [some (va_rf (some m0)), some (va_rf (some (m0 + (kr - 11)))), some (.int (i32 z)), some (.int (i32 (w + 1))), none, none, none]) ⟨rfl, ⟨rfl, ⟨rfl, ⟨rfl, trivial⟩⟩⟩⟩ (ih (w + 1) (f_frees w v) hJ2 (by show 0 ≤ (w + 1) ∧ (w + 1) ≤ 100; omega) (by show (((f_frees w v) 2 0) - (w + 1)).toNat < n; omega) K)
theorem fr_l_forecastOf_4 : ∀ (n : Nat) (w : Int) (v : Vw) (fk : Nat) (fi : Int) (hk : fk ≠ 42 ∧ fk ≠ 43), (l_forecastOf_4 n w v) fk fi = v fk fi := by
  intro n w v fk fi hk
  induction n generalizing w v with
  | zero => rfl
  | succ n ih =>
    by_cases c1 : (v 2 0) ≤ w
    · rw [l_forecastOf_4, if_pos c1]
      try rfl
    · rw [l_forecastOf_4, if_neg c1]
      exact (ih (w + 1) (f_frees w v)).trans ((fr_frees (w := w) (v := v) fk fi (by omega)).trans rfl)
theorem i_l_forecastOf_4 {T E : Int} : ∀ (n : Nat) (w : Int) (v : Vw) (hI : IM v T E) (hw : 0 ≤ w ∧ w ≤ 100), IM (l_forecastOf_4 n w v) T (E) := by
  intro n
  induction n with
  | zero =>
    intro w v hI hw
    have hT := hI.1
    exact hI
  | succ n ih =>
    intro w v hI hw
    have hT := hI.1
    have u2 : 0 ≤ v 2 0 ∧ v 2 0 ≤ 8 := hI.2 2 0
    by_cases c1 : (v 2 0) ≤ w
    · rw [l_forecastOf_4, if_pos c1]
      exact hI
    · have hJ2 := (i_frees (w := w) hI (by show 0 ≤ w ∧ w ≤ 7; omega))
      have q3 : (f_frees w v) 2 0 = v 2 0 := (fr_frees (w := w) (v := v) 2 0 (by decide)).trans rfl
      rw [l_forecastOf_4, if_neg c1]
      exact ih (w + 1) (f_frees w v) hJ2 (by show 0 ≤ (w + 1) ∧ (w + 1) ≤ 100; omega)
theorem up_l_forecastOf_4 {T E : Int} : ∀ (n : Nat) (w : Int) (v : Vw), IM v T E → (0 ≤ w ∧ w ≤ 100) → (v 2 0 - w).toNat < n → ∀ w', w ≤ w' → w' < v 2 0 → l_forecastOf_4 n w v 42 w' ≤ T + 19 := by
  intro n
  induction n with
  | zero => exact fun _ _ _ _ h => absurd h (Nat.not_lt_zero _)
  | succ n ih =>
    intro w v hI hw hm w' h1 h2
    have u2 : 0 ≤ v 2 0 ∧ v 2 0 ≤ 8 := hI.2 2 0
    rw [l_forecastOf_4, if_neg (by omega)]
    have hJ := i_frees (w := w) hI (by omega)
    have e2 : f_frees w v 2 0 = v 2 0 := fr_frees 2 0 (by decide)
    by_cases e : w' = w
    · subst e
      have : ∀ (n : Nat) (w : Int) (v : Vw), w' < w → l_forecastOf_4 n w v 42 w' = v 42 w' := by
        intro n
        induction n with
        | zero => exact fun _ _ _ => rfl
        | succ n ih =>
          intro w v hl
          rw [l_forecastOf_4]
          split
          · rfl
          · rw [ih (w + 1) _ (by omega), ne_frees w w' (by omega)]
      rw [this n (w' + 1) _ (by omega)]
      exact up_frees w' hI
    · exact ih (w + 1) _ hJ (by omega) (by omega) w' (by omega) (by omega)
def l_forecastOf_39 (v : Vw) : Nat → Int → Int → Int
  | 0, first, w => first
  | n + 1, first, w =>
    if (v 2 0) ≤ w then
      first
    else
      if (v 20 w) = 0 then
        if first = (-1) then
          (l_forecastOf_39 v n w (w + 1))
        else
          if (v 42 first) ≤ (v 42 w) then
            (l_forecastOf_39 v n first (w + 1))
          else
            (l_forecastOf_39 v n w (w + 1))
      else
        (l_forecastOf_39 v n first (w + 1))
theorem s_l_forecastOf_39 {X : Cx} {σ : Hp} {m0 : Nat} {T E : Int} {last : Int} {k : Int} {kr : Nat} {o : Rs} {τ : Hp} (hG : GM σ m0) {v : Vw} (hI : IM v T E) : ∀ (n : Nat) (first w : Int) (hw : 0 ≤ w ∧ w ≤ 100) (hf1 : -1 ≤ first ∧ first ≤ 7) (hm : (v 2 0 - w).toNat < n), Ev X m_X11_forecastOf 2 91 [some (va_rf (some m0)), some (va_rf (some (m0 + (kr - 11)))), some (.int (i32 last)), some (.int (i32 k)), some (.int (i32 (l_forecastOf_39 v n first w))), none, none] [] (Hm σ m0 v) o τ → Ev X m_X11_forecastOf 2 39 [some (va_rf (some m0)), some (va_rf (some (m0 + (kr - 11)))), some (.int (i32 last)), some (.int (i32 k)), some (.int (i32 first)), some (.int (i32 w)), none] [] (Hm σ m0 v) o τ := by
  intro n
  induction n with
  | zero =>
    intro first w hw hf1 hm K
    exact absurd hm (Nat.not_lt_zero _)
  | succ n ih =>
    intro first w hw hf1 hm K
    have hT := hI.1
    have u2 : 0 ≤ v 2 0 ∧ v 2 0 ≤ 8 := hI.2 2 0
    refine Ev.iload dX11_forecastOf_39 rfl ?_
    refine Ev.aload_n (i := 0) dX11_forecastOf_41 rfl rfl ?_
    refine Ex.gS (k := 2) (v 2 0) rfl hG (by decide) (tb6 (i := 212) rfl) rfl rfl dX11_forecastOf_42 ?_
    refine Ei.icmp_ge (tgt := 91) dX11_forecastOf_45 (by decide) ⟨by omega, by omega⟩ ⟨by omega, by omega⟩ (fun c4 => ?_) (fun c4 => ?_)
    · rw [l_forecastOf_39, if_pos c4] at K
      exact Ev.fgt (ls' := [some (va_rf (some m0)), some (va_rf (some (m0 + (kr - 11)))), some (.int (i32 last)), some (.int (i32 k)), some (.int (i32 first)), none, none]) ⟨rfl, ⟨rfl, ⟨rfl, ⟨rfl, ⟨rfl, trivial⟩⟩⟩⟩⟩ K
    · refine Ev.aload_n (i := 0) dX11_forecastOf_48 rfl rfl ?_
      refine Em.gA (k := 20) hG (by decide) (by decide) (tb6 (i := 230) rfl) rfl rfl dX11_forecastOf_49 ?_
      refine Ev.iload dX11_forecastOf_52 rfl ?_
      have q5 : 0 ≤ v 20 w ∧ v 20 w ≤ 1 := hI.2 20 w
      refine Ex.zald (k := 20) (v 20 w) rfl hG (by decide) (by decide) rfl (by omega) (by show _ < ((8 : Nat) : Int); omega) (by decide) dX11_forecastOf_54 ?_
      refine Ex.if_ne (tgt := 85) dX11_forecastOf_55 (by decide) ⟨by omega, by omega⟩ (fun c6 => ?_) (fun c6 => ?_)
      · refine Ev.iload dX11_forecastOf_58 rfl ?_
        refine Ei.const dX11_forecastOf_60 ?_
        refine Ei.icmp_eq (tgt := 81) dX11_forecastOf_61 (by decide) ⟨by omega, by omega⟩ ⟨by omega, by omega⟩ (fun c7 => ?_) (fun c7 => ?_)
        · refine Ev.iload dX11_forecastOf_81 rfl ?_
          refine Ev.istore dX11_forecastOf_83 (by decide) ?_
          refine Ei.inc dX11_forecastOf_85 rfl (by decide) ?_
          refine Ev.goto (tgt := 39) dX11_forecastOf_88 (by decide) ?_
          rw [l_forecastOf_39, if_neg c4, if_pos c6, if_pos c7] at K
          exact Ev.fgt (ls' := [some (va_rf (some m0)), some (va_rf (some (m0 + (kr - 11)))), some (.int (i32 last)), some (.int (i32 k)), some (.int (i32 w)), some (.int (i32 (w + 1))), none]) ⟨rfl, ⟨rfl, ⟨rfl, ⟨rfl, ⟨rfl, ⟨rfl, trivial⟩⟩⟩⟩⟩⟩ (ih w (w + 1)  (by show 0 ≤ (w + 1) ∧ (w + 1) ≤ 100; omega) (by show -1 ≤ w ∧ w ≤ 7; omega) (by show ((v 2 0) - (w + 1)).toNat < n; omega) K)
        · refine Ev.aload_n (i := 0) dX11_forecastOf_64 rfl rfl ?_
          refine Em.gA (k := 42) hG (by decide) (by decide) (tb7 (i := 12) rfl) rfl rfl dX11_forecastOf_65 ?_
          refine Ev.iload dX11_forecastOf_68 rfl ?_
          have q8 : -T ≤ v 42 w ∧ v 42 w ≤ T + 300 := hI.2 42 w
          refine Ex.iald (k := 42) (v 42 w) rfl hG (by decide) (by decide) rfl (by omega) (by show _ < ((8 : Nat) : Int); omega) (by decide) dX11_forecastOf_70 ?_
          refine Ev.aload_n (i := 0) dX11_forecastOf_71 rfl rfl ?_
          refine Em.gA (k := 42) hG (by decide) (by decide) (tb7 (i := 12) rfl) rfl rfl dX11_forecastOf_72 ?_
          refine Ev.iload dX11_forecastOf_75 rfl ?_
          have q9 : -T ≤ v 42 first ∧ v 42 first ≤ T + 300 := hI.2 42 first
          refine Ex.iald (k := 42) (v 42 first) rfl hG (by decide) (by decide) rfl (by omega) (by show _ < ((8 : Nat) : Int); omega) (by decide) dX11_forecastOf_77 ?_
          refine Ei.icmp_ge (tgt := 85) dX11_forecastOf_78 (by decide) ⟨by omega, by omega⟩ ⟨by omega, by omega⟩ (fun c10 => ?_) (fun c10 => ?_)
          · refine Ei.inc dX11_forecastOf_85 rfl (by decide) ?_
            refine Ev.goto (tgt := 39) dX11_forecastOf_88 (by decide) ?_
            rw [l_forecastOf_39, if_neg c4, if_pos c6, if_neg c7, if_pos c10] at K
            exact Ev.fgt (ls' := [some (va_rf (some m0)), some (va_rf (some (m0 + (kr - 11)))), some (.int (i32 last)), some (.int (i32 k)), some (.int (i32 first)), some (.int (i32 (w + 1))), none]) ⟨rfl, ⟨rfl, ⟨rfl, ⟨rfl, ⟨rfl, ⟨rfl, trivial⟩⟩⟩⟩⟩⟩ (ih first (w + 1)  (by show 0 ≤ (w + 1) ∧ (w + 1) ≤ 100; omega) (by show -1 ≤ first ∧ first ≤ 7; omega) (by show ((v 2 0) - (w + 1)).toNat < n; omega) K)
          · refine Ev.iload dX11_forecastOf_81 rfl ?_
            refine Ev.istore dX11_forecastOf_83 (by decide) ?_
            refine Ei.inc dX11_forecastOf_85 rfl (by decide) ?_
            refine Ev.goto (tgt := 39) dX11_forecastOf_88 (by decide) ?_
            rw [l_forecastOf_39, if_neg c4, if_pos c6, if_neg c7, if_neg c10] at K
            exact Ev.fgt (ls' := [some (va_rf (some m0)), some (va_rf (some (m0 + (kr - 11)))), some (.int (i32 last)), some (.int (i32 k)), some (.int (i32 w)), some (.int (i32 (w + 1))), none]) ⟨rfl, ⟨rfl, ⟨rfl, ⟨rfl, ⟨rfl, ⟨rfl, trivial⟩⟩⟩⟩⟩⟩ (ih w (w + 1)  (by show 0 ≤ (w + 1) ∧ (w + 1) ≤ 100; omega) (by show -1 ≤ w ∧ w ≤ 7; omega) (by show ((v 2 0) - (w + 1)).toNat < n; omega) K)
      · refine Ei.inc dX11_forecastOf_85 rfl (by decide) ?_
        refine Ev.goto (tgt := 39) dX11_forecastOf_88 (by decide) ?_
        rw [l_forecastOf_39, if_neg c4, if_neg c6] at K
        exact Ev.fgt (ls' := [some (va_rf (some m0)), some (va_rf (some (m0 + (kr - 11)))), some (.int (i32 last)), some (.int (i32 k)), some (.int (i32 first)), some (.int (i32 (w + 1))), none]) ⟨rfl, ⟨rfl, ⟨rfl, ⟨rfl, ⟨rfl, ⟨rfl, trivial⟩⟩⟩⟩⟩⟩ (ih first (w + 1)  (by show 0 ≤ (w + 1) ∧ (w + 1) ≤ 100; omega) (by show -1 ≤ first ∧ first ≤ 7; omega) (by show ((v 2 0) - (w + 1)).toNat < n; omega) K)
theorem r_l_forecastOf_39 {v : Vw} : ∀ (n : Nat) (first w : Int), -1 ≤ first → 0 ≤ w → (v 2 0 - w).toNat < n → (0 ≤ first → first < v 2 0) → (0 ≤ first ∨ HasG v w) → 0 ≤ l_forecastOf_39 v n first w ∧ l_forecastOf_39 v n first w < v 2 0 := by
  intro n
  induction n with
  | zero => exact fun _ _ _ _ h => absurd h (Nat.not_lt_zero _)
  | succ n ih =>
    intro first w h0 hw hm h1 h2
    rw [l_forecastOf_39]
    have key : ∀ f', -1 ≤ f' → (0 ≤ f' → f' < v 2 0) → ¬ v 2 0 ≤ w → (0 ≤ f' ∨ ¬ v 20 w = 0) → (0 ≤ first → 0 ≤ f') → 0 ≤ l_forecastOf_39 v n f' (w + 1) ∧ l_forecastOf_39 v n f' (w + 1) < v 2 0 := by
      intro f' g0 g1 g2 g3 g4
      refine ih f' (w + 1) g0 (by omega) (by omega) g1 ?_
      rcases h2 with h2 | ⟨w0, a1, a2, a3⟩
      · exact Or.inl (g4 h2)
      · by_cases e : w0 = w
        · subst e
          rcases g3 with g3 | g3
          · exact Or.inl g3
          · exact absurd a3 g3
        · exact Or.inr ⟨w0, by omega, a2, a3⟩
    split
    · rename_i hc
      rcases h2 with h2 | ⟨w0, a1, a2, a3⟩
      · exact ⟨h2, h1 h2⟩
      · omega
    · rename_i hc
      repeat' split
      all_goals first | exact key _ (by omega) (by omega) hc (by omega) (by omega) | exact key _ h0 h1 hc (by omega) (by omega)
def l_forecastOf_25 (kr : Nat) : Nat → Int → Int → Vw → Int × Vw
  | 0, last, k, v => (0, v)
  | n + 1, last, k, v =>
    if (v 7 0) ≤ k then
      (last, v)
    else
      if (v 43 (l_forecastOf_39 v (((v 2 0) - 0).toNat + 1) (-1) 0)) = (-1) then
        if (((v 42 (l_forecastOf_39 v (((v 2 0) - 0).toNat + 1) (-1) 0)) + (v 13 (v kr k))) + 0) ≤ last then
          (l_forecastOf_25 kr n last (k + 1) (upv (upv v 42 (l_forecastOf_39 v (((v 2 0) - 0).toNat + 1) (-1) 0) ((((v 42 (l_forecastOf_39 v (((v 2 0) - 0).toNat + 1) (-1) 0)) + (v 13 (v kr k))) + 0) + 2)) 43 (l_forecastOf_39 v (((v 2 0) - 0).toNat + 1) (-1) 0) (v 12 (v kr k))))
        else
          (l_forecastOf_25 kr n (((v 42 (l_forecastOf_39 v (((v 2 0) - 0).toNat + 1) (-1) 0)) + (v 13 (v kr k))) + 0) (k + 1) (upv (upv v 42 (l_forecastOf_39 v (((v 2 0) - 0).toNat + 1) (-1) 0) ((((v 42 (l_forecastOf_39 v (((v 2 0) - 0).toNat + 1) (-1) 0)) + (v 13 (v kr k))) + 0) + 2)) 43 (l_forecastOf_39 v (((v 2 0) - 0).toNat + 1) (-1) 0) (v 12 (v kr k))))
      else
        if (v 43 (l_forecastOf_39 v (((v 2 0) - 0).toNat + 1) (-1) 0)) = (v 12 (v kr k)) then
          if (((v 42 (l_forecastOf_39 v (((v 2 0) - 0).toNat + 1) (-1) 0)) + (v 13 (v kr k))) + 0) ≤ last then
            (l_forecastOf_25 kr n last (k + 1) (upv (upv v 42 (l_forecastOf_39 v (((v 2 0) - 0).toNat + 1) (-1) 0) ((((v 42 (l_forecastOf_39 v (((v 2 0) - 0).toNat + 1) (-1) 0)) + (v 13 (v kr k))) + 0) + 2)) 43 (l_forecastOf_39 v (((v 2 0) - 0).toNat + 1) (-1) 0) (v 12 (v kr k))))
          else
            (l_forecastOf_25 kr n (((v 42 (l_forecastOf_39 v (((v 2 0) - 0).toNat + 1) (-1) 0)) + (v 13 (v kr k))) + 0) (k + 1) (upv (upv v 42 (l_forecastOf_39 v (((v 2 0) - 0).toNat + 1) (-1) 0) ((((v 42 (l_forecastOf_39 v (((v 2 0) - 0).toNat + 1) (-1) 0)) + (v 13 (v kr k))) + 0) + 2)) 43 (l_forecastOf_39 v (((v 2 0) - 0).toNat + 1) (-1) 0) (v 12 (v kr k))))
        else
          if (((v 42 (l_forecastOf_39 v (((v 2 0) - 0).toNat + 1) (-1) 0)) + (v 13 (v kr k))) + 1) ≤ last then
            (l_forecastOf_25 kr n last (k + 1) (upv (upv v 42 (l_forecastOf_39 v (((v 2 0) - 0).toNat + 1) (-1) 0) ((((v 42 (l_forecastOf_39 v (((v 2 0) - 0).toNat + 1) (-1) 0)) + (v 13 (v kr k))) + 1) + 2)) 43 (l_forecastOf_39 v (((v 2 0) - 0).toNat + 1) (-1) 0) (v 12 (v kr k))))
          else
            (l_forecastOf_25 kr n (((v 42 (l_forecastOf_39 v (((v 2 0) - 0).toNat + 1) (-1) 0)) + (v 13 (v kr k))) + 1) (k + 1) (upv (upv v 42 (l_forecastOf_39 v (((v 2 0) - 0).toNat + 1) (-1) 0) ((((v 42 (l_forecastOf_39 v (((v 2 0) - 0).toNat + 1) (-1) 0)) + (v 13 (v kr k))) + 1) + 2)) 43 (l_forecastOf_39 v (((v 2 0) - 0).toNat + 1) (-1) 0) (v 12 (v kr k))))
theorem s_l_forecastOf_25 {X : Cx} {σ : Hp} {m0 : Nat} {T E : Int} {kr : Nat} (hG : GM σ m0) (hk : kr = 39 ∨ kr = 40) : ∀ (n : Nat) (last k : Int) (v : Vw) (hI : IM v T E) (hk0 : 0 ≤ k ∧ k ≤ 1000) (hl : 0 ≤ last ∧ last ≤ T + 300) (ht : HasF v) (hf : ∀ w, 0 ≤ w → w < v 2 0 → v 42 w ≤ T + 20 + 17 * k) (hm : (v 7 0 - k).toNat < n), Ev X m_X11_forecastOf 2 25 [some (va_rf (some m0)), some (va_rf (some (m0 + (kr - 11)))), some (.int (i32 last)), some (.int (i32 k)), none, none, none] [] (Hm σ m0 v) (.inl (some (.int (i32 (l_forecastOf_25 kr n last k v).1)))) (Hm σ m0 (l_forecastOf_25 kr n last k v).2) := by
  intro n
  induction n with
  | zero =>
    intro last k v hI hk0 hl ht hf hm
    exact absurd hm (Nat.not_lt_zero _)
  | succ n ih =>
    intro last k v hI hk0 hl ht hf hm
    have hT := hI.1
    have u2 : 0 ≤ v 2 0 ∧ v 2 0 ≤ 8 := hI.2 2 0
    have u7 : 0 ≤ v 7 0 ∧ v 7 0 ≤ 6 := hI.2 7 0
    refine Ev.iload_n (i := 3) dX11_forecastOf_25 rfl rfl ?_
    refine Ev.aload_n (i := 0) dX11_forecastOf_26 rfl rfl ?_
    refine Ex.gS (k := 7) (v 7 0) rfl hG (by decide) (tb6 (i := 217) rfl) rfl rfl dX11_forecastOf_27 ?_
    refine Ei.icmp_ge (tgt := 187) dX11_forecastOf_30 (by decide) ⟨by omega, by omega⟩ ⟨by omega, by omega⟩ (fun c11 => ?_) (fun c11 => ?_)
    · refine Ev.iload_n (i := 2) dX11_forecastOf_187 rfl rfl ?_
      exact Ev.iretE rfl nar_i dX11_forecastOf_188 (by rw [l_forecastOf_25, if_pos c11]; try rfl) (by first | rfl | (rw [l_forecastOf_25, if_pos c11]; try rfl))
    · refine Ei.const dX11_forecastOf_33 ?_
      refine Ev.istore dX11_forecastOf_34 (by decide) ?_
      refine Ei.const dX11_forecastOf_36 ?_
      refine Ev.istore dX11_forecastOf_37 (by decide) ?_
      refine Ev.fgt (ls' := [some (va_rf (some m0)), some (va_rf (some (m0 + (kr - 11)))), some (.int (i32 last)), some (.int (i32 k)), some (.int (i32 (-1))), some (.int (i32 0)), none]) ⟨rfl, ⟨rfl, ⟨rfl, ⟨rfl, ⟨rfl, ⟨rfl, trivial⟩⟩⟩⟩⟩⟩ ?_
      refine s_l_forecastOf_39 hG hI  (((v 2 0) - 0).toNat + 1) (-1) 0 (by show 0 ≤ 0 ∧ 0 ≤ 100; omega) (by show -1 ≤ (-1) ∧ (-1) ≤ 7; omega) (by show ((v 2 0) - 0).toNat < (((v 2 0) - 0).toNat + 1); omega) ?_
      have q12 := r_l_forecastOf_39 (v := v) (((v 2 0) - 0).toNat + 1) (-1) 0 (by omega) (by omega) (by omega) (by omega) (Or.inr ht)
      have q13 := hf (l_forecastOf_39 v (((v 2 0) - 0).toNat + 1) (-1) 0) (by omega) (by omega)
      have q14 : 0 ≤ v 2 0 ∧ v 2 0 ≤ 8 := hI.2 2 0
      refine Ev.aload_n (i := 0) dX11_forecastOf_91 rfl rfl ?_
      refine Em.gA (k := 12) hG (by decide) (by decide) (tb6 (i := 222) rfl) rfl rfl dX11_forecastOf_92 ?_
      refine Ev.aload_n (i := 1) dX11_forecastOf_95 rfl rfl ?_
      refine Ev.iload_n (i := 3) dX11_forecastOf_96 rfl rfl ?_
      have q15 : 0 ≤ v kr k ∧ v kr k ≤ 4 := by rcases hk with rfl | rfl <;> exact hI.2 _ k
      refine Ex.iald (k := kr) (v kr k) rfl hG (by omega) (by omega) (by rcases hk with rfl | rfl <;> rfl) (by omega) (by rcases hk with rfl | rfl <;> (show _ < ((6 : Nat) : Int); omega)) (by rcases hk with rfl | rfl <;> decide) dX11_forecastOf_97 ?_
      have q16 : 0 ≤ v 12 (v kr k) ∧ v 12 (v kr k) ≤ 3 := hI.2 12 (v kr k)
      refine Ex.iald (k := 12) (v 12 (v kr k)) rfl hG (by decide) (by decide) rfl (by omega) (by show _ < ((5 : Nat) : Int); omega) (by decide) dX11_forecastOf_98 ?_
      refine Ev.istore dX11_forecastOf_99 (by decide) ?_
      refine Ev.aload_n (i := 0) dX11_forecastOf_101 rfl rfl ?_
      refine Em.gA (k := 42) hG (by decide) (by decide) (tb7 (i := 12) rfl) rfl rfl dX11_forecastOf_102 ?_
      refine Ev.iload dX11_forecastOf_105 rfl ?_
      have q17 : -T ≤ v 42 (l_forecastOf_39 v (((v 2 0) - 0).toNat + 1) (-1) 0) ∧ v 42 (l_forecastOf_39 v (((v 2 0) - 0).toNat + 1) (-1) 0) ≤ T + 300 := hI.2 42 (l_forecastOf_39 v (((v 2 0) - 0).toNat + 1) (-1) 0)
      refine Ex.iald (k := 42) (v 42 (l_forecastOf_39 v (((v 2 0) - 0).toNat + 1) (-1) 0)) rfl hG (by decide) (by decide) rfl (by omega) (by show _ < ((8 : Nat) : Int); omega) (by decide) dX11_forecastOf_107 ?_
      refine Ev.aload_n (i := 0) dX11_forecastOf_108 rfl rfl ?_
      refine Em.gA (k := 13) hG (by decide) (by decide) (tb6 (i := 223) rfl) rfl rfl dX11_forecastOf_109 ?_
      refine Ev.aload_n (i := 1) dX11_forecastOf_112 rfl rfl ?_
      refine Ev.iload_n (i := 3) dX11_forecastOf_113 rfl rfl ?_
      refine Ex.iald (k := kr) (v kr k) rfl hG (by omega) (by omega) (by rcases hk with rfl | rfl <;> rfl) (by omega) (by rcases hk with rfl | rfl <;> (show _ < ((6 : Nat) : Int); omega)) (by rcases hk with rfl | rfl <;> decide) dX11_forecastOf_114 ?_
      have q18 : 0 ≤ v 13 (v kr k) ∧ v 13 (v kr k) ≤ 14 := hI.2 13 (v kr k)
      refine Ex.iald (k := 13) (v 13 (v kr k)) rfl hG (by decide) (by decide) rfl (by omega) (by show _ < ((5 : Nat) : Int); omega) (by decide) dX11_forecastOf_115 ?_
      refine Ei.add dX11_forecastOf_116 ?_
      refine Ev.aload_n (i := 0) dX11_forecastOf_117 rfl rfl ?_
      refine Em.gA (k := 43) hG (by decide) (by decide) (tb7 (i := 13) rfl) rfl rfl dX11_forecastOf_118 ?_
      refine Ev.iload dX11_forecastOf_121 rfl ?_
      have q19 : -1 ≤ v 43 (l_forecastOf_39 v (((v 2 0) - 0).toNat + 1) (-1) 0) ∧ v 43 (l_forecastOf_39 v (((v 2 0) - 0).toNat + 1) (-1) 0) ≤ 3 := hI.2 43 (l_forecastOf_39 v (((v 2 0) - 0).toNat + 1) (-1) 0)
      refine Ex.iald (k := 43) (v 43 (l_forecastOf_39 v (((v 2 0) - 0).toNat + 1) (-1) 0)) rfl hG (by decide) (by decide) rfl (by omega) (by show _ < ((8 : Nat) : Int); omega) (by decide) dX11_forecastOf_123 ?_
      refine Ei.const dX11_forecastOf_124 ?_
      refine Ei.icmp_eq (tgt := 144) dX11_forecastOf_125 (by decide) ⟨by omega, by omega⟩ ⟨by omega, by omega⟩ (fun c20 => ?_) (fun c20 => ?_)
      · refine Ei.const dX11_forecastOf_144 ?_
        refine Ei.add dX11_forecastOf_145 ?_
        refine Ev.istore dX11_forecastOf_146 (by decide) ?_
        refine Ev.iload dX11_forecastOf_148 rfl ?_
        refine Ev.iload_n (i := 2) dX11_forecastOf_150 rfl rfl ?_
        refine Ei.icmp_le (tgt := 159) dX11_forecastOf_151 (by decide) ⟨by omega, by omega⟩ ⟨by omega, by omega⟩ (fun c21 => ?_) (fun c21 => ?_)
        · refine Ev.iload_n (i := 2) dX11_forecastOf_159 rfl rfl ?_
          refine Ev.istore_n (i := 2) dX11_forecastOf_160 rfl (by decide) ?_
          refine Ev.aload_n (i := 0) dX11_forecastOf_161 rfl rfl ?_
          refine Em.gA (k := 42) hG (by decide) (by decide) (tb7 (i := 12) rfl) rfl rfl dX11_forecastOf_162 ?_
          refine Ev.iload dX11_forecastOf_165 rfl ?_
          refine Ev.iload dX11_forecastOf_167 rfl ?_
          refine Ei.const dX11_forecastOf_169 ?_
          refine Ei.add dX11_forecastOf_170 ?_
          refine Em.iast (k := 42) hG (by decide) (by decide) rfl (by omega) (by show _ < ((8 : Nat) : Int); omega) (by decide) dX11_forecastOf_171 ?_
          refine Ev.aload_n (i := 0) dX11_forecastOf_172 rfl rfl ?_
          refine Em.gA (k := 43) hG (by decide) (by decide) (tb7 (i := 13) rfl) rfl rfl dX11_forecastOf_173 ?_
          refine Ev.iload dX11_forecastOf_176 rfl ?_
          refine Ev.iload dX11_forecastOf_178 rfl ?_
          refine Em.iast (k := 43) hG (by decide) (by decide) rfl (by omega) (by show _ < ((8 : Nat) : Int); omega) (by decide) dX11_forecastOf_180 ?_
          refine Ei.inc dX11_forecastOf_181 rfl (by decide) ?_
          refine Ev.goto (tgt := 25) dX11_forecastOf_184 (by decide) ?_
          rw [l_forecastOf_25, if_neg c11, if_pos c20, if_pos c21]
          exact Ev.fgt (ls' := [some (va_rf (some m0)), some (va_rf (some (m0 + (kr - 11)))), some (.int (i32 last)), some (.int (i32 (k + 1))), none, none, none]) ⟨rfl, ⟨rfl, ⟨rfl, ⟨rfl, trivial⟩⟩⟩⟩ (ih last (k + 1) (upv (upv v 42 (l_forecastOf_39 v (((v 2 0) - 0).toNat + 1) (-1) 0) ((((v 42 (l_forecastOf_39 v (((v 2 0) - 0).toNat + 1) (-1) 0)) + (v 13 (v kr k))) + 0) + 2)) 43 (l_forecastOf_39 v (((v 2 0) - 0).toNat + 1) (-1) 0) (v 12 (v kr k))) ((hI.up 42 (l_forecastOf_39 v (((v 2 0) - 0).toNat + 1) (-1) 0) ((((v 42 (l_forecastOf_39 v (((v 2 0) - 0).toNat + 1) (-1) 0)) + (v 13 (v kr k))) + 0) + 2) (by show -T ≤ ((((v 42 (l_forecastOf_39 v (((v 2 0) - 0).toNat + 1) (-1) 0)) + (v 13 (v kr k))) + 0) + 2) ∧ ((((v 42 (l_forecastOf_39 v (((v 2 0) - 0).toNat + 1) (-1) 0)) + (v 13 (v kr k))) + 0) + 2) ≤ T + 300; omega)).up 43 (l_forecastOf_39 v (((v 2 0) - 0).toNat + 1) (-1) 0) (v 12 (v kr k)) (by show -1 ≤ (v 12 (v kr k)) ∧ (v 12 (v kr k)) ≤ 3; omega)) (by show 0 ≤ (k + 1) ∧ (k + 1) ≤ 1000; omega) (by show 0 ≤ last ∧ last ≤ T + 300; omega) (by exact ht) (by intro w h1 h2; have h3 := hf w h1 h2; unfold upv; repeat' split; all_goals omega) (by show ((v 7 0) - (k + 1)).toNat < n; omega))
        · refine Ev.iload dX11_forecastOf_154 rfl ?_
          refine Ev.goto (tgt := 160) dX11_forecastOf_156 (by decide) ?_
          refine Ev.istore_n (i := 2) dX11_forecastOf_160 rfl (by decide) ?_
          refine Ev.aload_n (i := 0) dX11_forecastOf_161 rfl rfl ?_
          refine Em.gA (k := 42) hG (by decide) (by decide) (tb7 (i := 12) rfl) rfl rfl dX11_forecastOf_162 ?_
          refine Ev.iload dX11_forecastOf_165 rfl ?_
          refine Ev.iload dX11_forecastOf_167 rfl ?_
          refine Ei.const dX11_forecastOf_169 ?_
          refine Ei.add dX11_forecastOf_170 ?_
          refine Em.iast (k := 42) hG (by decide) (by decide) rfl (by omega) (by show _ < ((8 : Nat) : Int); omega) (by decide) dX11_forecastOf_171 ?_
          refine Ev.aload_n (i := 0) dX11_forecastOf_172 rfl rfl ?_
          refine Em.gA (k := 43) hG (by decide) (by decide) (tb7 (i := 13) rfl) rfl rfl dX11_forecastOf_173 ?_
          refine Ev.iload dX11_forecastOf_176 rfl ?_
          refine Ev.iload dX11_forecastOf_178 rfl ?_
          refine Em.iast (k := 43) hG (by decide) (by decide) rfl (by omega) (by show _ < ((8 : Nat) : Int); omega) (by decide) dX11_forecastOf_180 ?_
          refine Ei.inc dX11_forecastOf_181 rfl (by decide) ?_
          refine Ev.goto (tgt := 25) dX11_forecastOf_184 (by decide) ?_
          rw [l_forecastOf_25, if_neg c11, if_pos c20, if_neg c21]
          exact Ev.fgt (ls' := [some (va_rf (some m0)), some (va_rf (some (m0 + (kr - 11)))), some (.int (i32 (((v 42 (l_forecastOf_39 v (((v 2 0) - 0).toNat + 1) (-1) 0)) + (v 13 (v kr k))) + 0))), some (.int (i32 (k + 1))), none, none, none]) ⟨rfl, ⟨rfl, ⟨rfl, ⟨rfl, trivial⟩⟩⟩⟩ (ih (((v 42 (l_forecastOf_39 v (((v 2 0) - 0).toNat + 1) (-1) 0)) + (v 13 (v kr k))) + 0) (k + 1) (upv (upv v 42 (l_forecastOf_39 v (((v 2 0) - 0).toNat + 1) (-1) 0) ((((v 42 (l_forecastOf_39 v (((v 2 0) - 0).toNat + 1) (-1) 0)) + (v 13 (v kr k))) + 0) + 2)) 43 (l_forecastOf_39 v (((v 2 0) - 0).toNat + 1) (-1) 0) (v 12 (v kr k))) ((hI.up 42 (l_forecastOf_39 v (((v 2 0) - 0).toNat + 1) (-1) 0) ((((v 42 (l_forecastOf_39 v (((v 2 0) - 0).toNat + 1) (-1) 0)) + (v 13 (v kr k))) + 0) + 2) (by show -T ≤ ((((v 42 (l_forecastOf_39 v (((v 2 0) - 0).toNat + 1) (-1) 0)) + (v 13 (v kr k))) + 0) + 2) ∧ ((((v 42 (l_forecastOf_39 v (((v 2 0) - 0).toNat + 1) (-1) 0)) + (v 13 (v kr k))) + 0) + 2) ≤ T + 300; omega)).up 43 (l_forecastOf_39 v (((v 2 0) - 0).toNat + 1) (-1) 0) (v 12 (v kr k)) (by show -1 ≤ (v 12 (v kr k)) ∧ (v 12 (v kr k)) ≤ 3; omega)) (by show 0 ≤ (k + 1) ∧ (k + 1) ≤ 1000; omega) (by show 0 ≤ (((v 42 (l_forecastOf_39 v (((v 2 0) - 0).toNat + 1) (-1) 0)) + (v 13 (v kr k))) + 0) ∧ (((v 42 (l_forecastOf_39 v (((v 2 0) - 0).toNat + 1) (-1) 0)) + (v 13 (v kr k))) + 0) ≤ T + 300; omega) (by exact ht) (by intro w h1 h2; have h3 := hf w h1 h2; unfold upv; repeat' split; all_goals omega) (by show ((v 7 0) - (k + 1)).toNat < n; omega))
      · refine Ev.aload_n (i := 0) dX11_forecastOf_128 rfl rfl ?_
        refine Em.gA (k := 43) hG (by decide) (by decide) (tb7 (i := 13) rfl) rfl rfl dX11_forecastOf_129 ?_
        refine Ev.iload dX11_forecastOf_132 rfl ?_
        refine Ex.iald (k := 43) (v 43 (l_forecastOf_39 v (((v 2 0) - 0).toNat + 1) (-1) 0)) rfl hG (by decide) (by decide) rfl (by omega) (by show _ < ((8 : Nat) : Int); omega) (by decide) dX11_forecastOf_134 ?_
        refine Ev.iload dX11_forecastOf_135 rfl ?_
        refine Ei.icmp_eq (tgt := 144) dX11_forecastOf_137 (by decide) ⟨by omega, by omega⟩ ⟨by omega, by omega⟩ (fun c22 => ?_) (fun c22 => ?_)
        · refine Ei.const dX11_forecastOf_144 ?_
          refine Ei.add dX11_forecastOf_145 ?_
          refine Ev.istore dX11_forecastOf_146 (by decide) ?_
          refine Ev.iload dX11_forecastOf_148 rfl ?_
          refine Ev.iload_n (i := 2) dX11_forecastOf_150 rfl rfl ?_
          refine Ei.icmp_le (tgt := 159) dX11_forecastOf_151 (by decide) ⟨by omega, by omega⟩ ⟨by omega, by omega⟩ (fun c23 => ?_) (fun c23 => ?_)
          · refine Ev.iload_n (i := 2) dX11_forecastOf_159 rfl rfl ?_
            refine Ev.istore_n (i := 2) dX11_forecastOf_160 rfl (by decide) ?_
            refine Ev.aload_n (i := 0) dX11_forecastOf_161 rfl rfl ?_
            refine Em.gA (k := 42) hG (by decide) (by decide) (tb7 (i := 12) rfl) rfl rfl dX11_forecastOf_162 ?_
            refine Ev.iload dX11_forecastOf_165 rfl ?_
            refine Ev.iload dX11_forecastOf_167 rfl ?_
            refine Ei.const dX11_forecastOf_169 ?_
            refine Ei.add dX11_forecastOf_170 ?_
            refine Em.iast (k := 42) hG (by decide) (by decide) rfl (by omega) (by show _ < ((8 : Nat) : Int); omega) (by decide) dX11_forecastOf_171 ?_
            refine Ev.aload_n (i := 0) dX11_forecastOf_172 rfl rfl ?_
            refine Em.gA (k := 43) hG (by decide) (by decide) (tb7 (i := 13) rfl) rfl rfl dX11_forecastOf_173 ?_
            refine Ev.iload dX11_forecastOf_176 rfl ?_
            refine Ev.iload dX11_forecastOf_178 rfl ?_
            refine Em.iast (k := 43) hG (by decide) (by decide) rfl (by omega) (by show _ < ((8 : Nat) : Int); omega) (by decide) dX11_forecastOf_180 ?_
            refine Ei.inc dX11_forecastOf_181 rfl (by decide) ?_
            refine Ev.goto (tgt := 25) dX11_forecastOf_184 (by decide) ?_
            rw [l_forecastOf_25, if_neg c11, if_neg c20, if_pos c22, if_pos c23]
            exact Ev.fgt (ls' := [some (va_rf (some m0)), some (va_rf (some (m0 + (kr - 11)))), some (.int (i32 last)), some (.int (i32 (k + 1))), none, none, none]) ⟨rfl, ⟨rfl, ⟨rfl, ⟨rfl, trivial⟩⟩⟩⟩ (ih last (k + 1) (upv (upv v 42 (l_forecastOf_39 v (((v 2 0) - 0).toNat + 1) (-1) 0) ((((v 42 (l_forecastOf_39 v (((v 2 0) - 0).toNat + 1) (-1) 0)) + (v 13 (v kr k))) + 0) + 2)) 43 (l_forecastOf_39 v (((v 2 0) - 0).toNat + 1) (-1) 0) (v 12 (v kr k))) ((hI.up 42 (l_forecastOf_39 v (((v 2 0) - 0).toNat + 1) (-1) 0) ((((v 42 (l_forecastOf_39 v (((v 2 0) - 0).toNat + 1) (-1) 0)) + (v 13 (v kr k))) + 0) + 2) (by show -T ≤ ((((v 42 (l_forecastOf_39 v (((v 2 0) - 0).toNat + 1) (-1) 0)) + (v 13 (v kr k))) + 0) + 2) ∧ ((((v 42 (l_forecastOf_39 v (((v 2 0) - 0).toNat + 1) (-1) 0)) + (v 13 (v kr k))) + 0) + 2) ≤ T + 300; omega)).up 43 (l_forecastOf_39 v (((v 2 0) - 0).toNat + 1) (-1) 0) (v 12 (v kr k)) (by show -1 ≤ (v 12 (v kr k)) ∧ (v 12 (v kr k)) ≤ 3; omega)) (by show 0 ≤ (k + 1) ∧ (k + 1) ≤ 1000; omega) (by show 0 ≤ last ∧ last ≤ T + 300; omega) (by exact ht) (by intro w h1 h2; have h3 := hf w h1 h2; unfold upv; repeat' split; all_goals omega) (by show ((v 7 0) - (k + 1)).toNat < n; omega))
          · refine Ev.iload dX11_forecastOf_154 rfl ?_
            refine Ev.goto (tgt := 160) dX11_forecastOf_156 (by decide) ?_
            refine Ev.istore_n (i := 2) dX11_forecastOf_160 rfl (by decide) ?_
            refine Ev.aload_n (i := 0) dX11_forecastOf_161 rfl rfl ?_
            refine Em.gA (k := 42) hG (by decide) (by decide) (tb7 (i := 12) rfl) rfl rfl dX11_forecastOf_162 ?_
            refine Ev.iload dX11_forecastOf_165 rfl ?_
            refine Ev.iload dX11_forecastOf_167 rfl ?_
            refine Ei.const dX11_forecastOf_169 ?_
            refine Ei.add dX11_forecastOf_170 ?_
            refine Em.iast (k := 42) hG (by decide) (by decide) rfl (by omega) (by show _ < ((8 : Nat) : Int); omega) (by decide) dX11_forecastOf_171 ?_
            refine Ev.aload_n (i := 0) dX11_forecastOf_172 rfl rfl ?_
            refine Em.gA (k := 43) hG (by decide) (by decide) (tb7 (i := 13) rfl) rfl rfl dX11_forecastOf_173 ?_
            refine Ev.iload dX11_forecastOf_176 rfl ?_
            refine Ev.iload dX11_forecastOf_178 rfl ?_
            refine Em.iast (k := 43) hG (by decide) (by decide) rfl (by omega) (by show _ < ((8 : Nat) : Int); omega) (by decide) dX11_forecastOf_180 ?_
            refine Ei.inc dX11_forecastOf_181 rfl (by decide) ?_
            refine Ev.goto (tgt := 25) dX11_forecastOf_184 (by decide) ?_
            rw [l_forecastOf_25, if_neg c11, if_neg c20, if_pos c22, if_neg c23]
            exact Ev.fgt (ls' := [some (va_rf (some m0)), some (va_rf (some (m0 + (kr - 11)))), some (.int (i32 (((v 42 (l_forecastOf_39 v (((v 2 0) - 0).toNat + 1) (-1) 0)) + (v 13 (v kr k))) + 0))), some (.int (i32 (k + 1))), none, none, none]) ⟨rfl, ⟨rfl, ⟨rfl, ⟨rfl, trivial⟩⟩⟩⟩ (ih (((v 42 (l_forecastOf_39 v (((v 2 0) - 0).toNat + 1) (-1) 0)) + (v 13 (v kr k))) + 0) (k + 1) (upv (upv v 42 (l_forecastOf_39 v (((v 2 0) - 0).toNat + 1) (-1) 0) ((((v 42 (l_forecastOf_39 v (((v 2 0) - 0).toNat + 1) (-1) 0)) + (v 13 (v kr k))) + 0) + 2)) 43 (l_forecastOf_39 v (((v 2 0) - 0).toNat + 1) (-1) 0) (v 12 (v kr k))) ((hI.up 42 (l_forecastOf_39 v (((v 2 0) - 0).toNat + 1) (-1) 0) ((((v 42 (l_forecastOf_39 v (((v 2 0) - 0).toNat + 1) (-1) 0)) + (v 13 (v kr k))) + 0) + 2) (by show -T ≤ ((((v 42 (l_forecastOf_39 v (((v 2 0) - 0).toNat + 1) (-1) 0)) + (v 13 (v kr k))) + 0) + 2) ∧ ((((v 42 (l_forecastOf_39 v (((v 2 0) - 0).toNat + 1) (-1) 0)) + (v 13 (v kr k))) + 0) + 2) ≤ T + 300; omega)).up 43 (l_forecastOf_39 v (((v 2 0) - 0).toNat + 1) (-1) 0) (v 12 (v kr k)) (by show -1 ≤ (v 12 (v kr k)) ∧ (v 12 (v kr k)) ≤ 3; omega)) (by show 0 ≤ (k + 1) ∧ (k + 1) ≤ 1000; omega) (by show 0 ≤ (((v 42 (l_forecastOf_39 v (((v 2 0) - 0).toNat + 1) (-1) 0)) + (v 13 (v kr k))) + 0) ∧ (((v 42 (l_forecastOf_39 v (((v 2 0) - 0).toNat + 1) (-1) 0)) + (v 13 (v kr k))) + 0) ≤ T + 300; omega) (by exact ht) (by intro w h1 h2; have h3 := hf w h1 h2; unfold upv; repeat' split; all_goals omega) (by show ((v 7 0) - (k + 1)).toNat < n; omega))
        · refine Ei.const dX11_forecastOf_140 ?_
          refine Ev.goto (tgt := 145) dX11_forecastOf_141 (by decide) ?_
          refine Ei.add dX11_forecastOf_145 ?_
          refine Ev.istore dX11_forecastOf_146 (by decide) ?_
          refine Ev.iload dX11_forecastOf_148 rfl ?_
          refine Ev.iload_n (i := 2) dX11_forecastOf_150 rfl rfl ?_
          refine Ei.icmp_le (tgt := 159) dX11_forecastOf_151 (by decide) ⟨by omega, by omega⟩ ⟨by omega, by omega⟩ (fun c24 => ?_) (fun c24 => ?_)
          · refine Ev.iload_n (i := 2) dX11_forecastOf_159 rfl rfl ?_
            refine Ev.istore_n (i := 2) dX11_forecastOf_160 rfl (by decide) ?_
            refine Ev.aload_n (i := 0) dX11_forecastOf_161 rfl rfl ?_
            refine Em.gA (k := 42) hG (by decide) (by decide) (tb7 (i := 12) rfl) rfl rfl dX11_forecastOf_162 ?_
            refine Ev.iload dX11_forecastOf_165 rfl ?_
            refine Ev.iload dX11_forecastOf_167 rfl ?_
            refine Ei.const dX11_forecastOf_169 ?_
            refine Ei.add dX11_forecastOf_170 ?_
            refine Em.iast (k := 42) hG (by decide) (by decide) rfl (by omega) (by show _ < ((8 : Nat) : Int); omega) (by decide) dX11_forecastOf_171 ?_
            refine Ev.aload_n (i := 0) dX11_forecastOf_172 rfl rfl ?_
            refine Em.gA (k := 43) hG (by decide) (by decide) (tb7 (i := 13) rfl) rfl rfl dX11_forecastOf_173 ?_
            refine Ev.iload dX11_forecastOf_176 rfl ?_
            refine Ev.iload dX11_forecastOf_178 rfl ?_
            refine Em.iast (k := 43) hG (by decide) (by decide) rfl (by omega) (by show _ < ((8 : Nat) : Int); omega) (by decide) dX11_forecastOf_180 ?_
            refine Ei.inc dX11_forecastOf_181 rfl (by decide) ?_
            refine Ev.goto (tgt := 25) dX11_forecastOf_184 (by decide) ?_
            rw [l_forecastOf_25, if_neg c11, if_neg c20, if_neg c22, if_pos c24]
            exact Ev.fgt (ls' := [some (va_rf (some m0)), some (va_rf (some (m0 + (kr - 11)))), some (.int (i32 last)), some (.int (i32 (k + 1))), none, none, none]) ⟨rfl, ⟨rfl, ⟨rfl, ⟨rfl, trivial⟩⟩⟩⟩ (ih last (k + 1) (upv (upv v 42 (l_forecastOf_39 v (((v 2 0) - 0).toNat + 1) (-1) 0) ((((v 42 (l_forecastOf_39 v (((v 2 0) - 0).toNat + 1) (-1) 0)) + (v 13 (v kr k))) + 1) + 2)) 43 (l_forecastOf_39 v (((v 2 0) - 0).toNat + 1) (-1) 0) (v 12 (v kr k))) ((hI.up 42 (l_forecastOf_39 v (((v 2 0) - 0).toNat + 1) (-1) 0) ((((v 42 (l_forecastOf_39 v (((v 2 0) - 0).toNat + 1) (-1) 0)) + (v 13 (v kr k))) + 1) + 2) (by show -T ≤ ((((v 42 (l_forecastOf_39 v (((v 2 0) - 0).toNat + 1) (-1) 0)) + (v 13 (v kr k))) + 1) + 2) ∧ ((((v 42 (l_forecastOf_39 v (((v 2 0) - 0).toNat + 1) (-1) 0)) + (v 13 (v kr k))) + 1) + 2) ≤ T + 300; omega)).up 43 (l_forecastOf_39 v (((v 2 0) - 0).toNat + 1) (-1) 0) (v 12 (v kr k)) (by show -1 ≤ (v 12 (v kr k)) ∧ (v 12 (v kr k)) ≤ 3; omega)) (by show 0 ≤ (k + 1) ∧ (k + 1) ≤ 1000; omega) (by show 0 ≤ last ∧ last ≤ T + 300; omega) (by exact ht) (by intro w h1 h2; have h3 := hf w h1 h2; unfold upv; repeat' split; all_goals omega) (by show ((v 7 0) - (k + 1)).toNat < n; omega))
          · refine Ev.iload dX11_forecastOf_154 rfl ?_
            refine Ev.goto (tgt := 160) dX11_forecastOf_156 (by decide) ?_
            refine Ev.istore_n (i := 2) dX11_forecastOf_160 rfl (by decide) ?_
            refine Ev.aload_n (i := 0) dX11_forecastOf_161 rfl rfl ?_
            refine Em.gA (k := 42) hG (by decide) (by decide) (tb7 (i := 12) rfl) rfl rfl dX11_forecastOf_162 ?_
            refine Ev.iload dX11_forecastOf_165 rfl ?_
            refine Ev.iload dX11_forecastOf_167 rfl ?_
            refine Ei.const dX11_forecastOf_169 ?_
            refine Ei.add dX11_forecastOf_170 ?_
            refine Em.iast (k := 42) hG (by decide) (by decide) rfl (by omega) (by show _ < ((8 : Nat) : Int); omega) (by decide) dX11_forecastOf_171 ?_
            refine Ev.aload_n (i := 0) dX11_forecastOf_172 rfl rfl ?_
            refine Em.gA (k := 43) hG (by decide) (by decide) (tb7 (i := 13) rfl) rfl rfl dX11_forecastOf_173 ?_
            refine Ev.iload dX11_forecastOf_176 rfl ?_
            refine Ev.iload dX11_forecastOf_178 rfl ?_
            refine Em.iast (k := 43) hG (by decide) (by decide) rfl (by omega) (by show _ < ((8 : Nat) : Int); omega) (by decide) dX11_forecastOf_180 ?_
            refine Ei.inc dX11_forecastOf_181 rfl (by decide) ?_
            refine Ev.goto (tgt := 25) dX11_forecastOf_184 (by decide) ?_
            rw [l_forecastOf_25, if_neg c11, if_neg c20, if_neg c22, if_neg c24]
            exact Ev.fgt (ls' := [some (va_rf (some m0)), some (va_rf (some (m0 + (kr - 11)))), some (.int (i32 (((v 42 (l_forecastOf_39 v (((v 2 0) - 0).toNat + 1) (-1) 0)) + (v 13 (v kr k))) + 1))), some (.int (i32 (k + 1))), none, none, none]) ⟨rfl, ⟨rfl, ⟨rfl, ⟨rfl, trivial⟩⟩⟩⟩ (ih (((v 42 (l_forecastOf_39 v (((v 2 0) - 0).toNat + 1) (-1) 0)) + (v 13 (v kr k))) + 1) (k + 1) (upv (upv v 42 (l_forecastOf_39 v (((v 2 0) - 0).toNat + 1) (-1) 0) ((((v 42 (l_forecastOf_39 v (((v 2 0) - 0).toNat + 1) (-1) 0)) + (v 13 (v kr k))) + 1) + 2)) 43 (l_forecastOf_39 v (((v 2 0) - 0).toNat + 1) (-1) 0) (v 12 (v kr k))) ((hI.up 42 (l_forecastOf_39 v (((v 2 0) - 0).toNat + 1) (-1) 0) ((((v 42 (l_forecastOf_39 v (((v 2 0) - 0).toNat + 1) (-1) 0)) + (v 13 (v kr k))) + 1) + 2) (by show -T ≤ ((((v 42 (l_forecastOf_39 v (((v 2 0) - 0).toNat + 1) (-1) 0)) + (v 13 (v kr k))) + 1) + 2) ∧ ((((v 42 (l_forecastOf_39 v (((v 2 0) - 0).toNat + 1) (-1) 0)) + (v 13 (v kr k))) + 1) + 2) ≤ T + 300; omega)).up 43 (l_forecastOf_39 v (((v 2 0) - 0).toNat + 1) (-1) 0) (v 12 (v kr k)) (by show -1 ≤ (v 12 (v kr k)) ∧ (v 12 (v kr k)) ≤ 3; omega)) (by show 0 ≤ (k + 1) ∧ (k + 1) ≤ 1000; omega) (by show 0 ≤ (((v 42 (l_forecastOf_39 v (((v 2 0) - 0).toNat + 1) (-1) 0)) + (v 13 (v kr k))) + 1) ∧ (((v 42 (l_forecastOf_39 v (((v 2 0) - 0).toNat + 1) (-1) 0)) + (v 13 (v kr k))) + 1) ≤ T + 300; omega) (by exact ht) (by intro w h1 h2; have h3 := hf w h1 h2; unfold upv; repeat' split; all_goals omega) (by show ((v 7 0) - (k + 1)).toNat < n; omega))
theorem fr_l_forecastOf_25 {kr : Nat} : ∀ (n : Nat) (last k : Int) (v : Vw) (fk : Nat) (fi : Int) (hk : fk ≠ 42 ∧ fk ≠ 43), (l_forecastOf_25 kr n last k v).2 fk fi = v fk fi := by
  intro n last k v fk fi hk
  induction n generalizing last k v with
  | zero => rfl
  | succ n ih =>
    by_cases c11 : (v 7 0) ≤ k
    · rw [l_forecastOf_25, if_pos c11]
      try rfl
    · by_cases c20 : (v 43 (l_forecastOf_39 v (((v 2 0) - 0).toNat + 1) (-1) 0)) = (-1)
      · by_cases c21 : (((v 42 (l_forecastOf_39 v (((v 2 0) - 0).toNat + 1) (-1) 0)) + (v 13 (v kr k))) + 0) ≤ last
        · rw [l_forecastOf_25, if_neg c11, if_pos c20, if_pos c21]
          exact (ih last (k + 1) (upv (upv v 42 (l_forecastOf_39 v (((v 2 0) - 0).toNat + 1) (-1) 0) ((((v 42 (l_forecastOf_39 v (((v 2 0) - 0).toNat + 1) (-1) 0)) + (v 13 (v kr k))) + 0) + 2)) 43 (l_forecastOf_39 v (((v 2 0) - 0).toNat + 1) (-1) 0) (v 12 (v kr k)))).trans ((upv_nk (by omega)).trans ((upv_nk (by omega)).trans rfl))
        · rw [l_forecastOf_25, if_neg c11, if_pos c20, if_neg c21]
          exact (ih (((v 42 (l_forecastOf_39 v (((v 2 0) - 0).toNat + 1) (-1) 0)) + (v 13 (v kr k))) + 0) (k + 1) (upv (upv v 42 (l_forecastOf_39 v (((v 2 0) - 0).toNat + 1) (-1) 0) ((((v 42 (l_forecastOf_39 v (((v 2 0) - 0).toNat + 1) (-1) 0)) + (v 13 (v kr k))) + 0) + 2)) 43 (l_forecastOf_39 v (((v 2 0) - 0).toNat + 1) (-1) 0) (v 12 (v kr k)))).trans ((upv_nk (by omega)).trans ((upv_nk (by omega)).trans rfl))
      · by_cases c22 : (v 43 (l_forecastOf_39 v (((v 2 0) - 0).toNat + 1) (-1) 0)) = (v 12 (v kr k))
        · by_cases c23 : (((v 42 (l_forecastOf_39 v (((v 2 0) - 0).toNat + 1) (-1) 0)) + (v 13 (v kr k))) + 0) ≤ last
          · rw [l_forecastOf_25, if_neg c11, if_neg c20, if_pos c22, if_pos c23]
            exact (ih last (k + 1) (upv (upv v 42 (l_forecastOf_39 v (((v 2 0) - 0).toNat + 1) (-1) 0) ((((v 42 (l_forecastOf_39 v (((v 2 0) - 0).toNat + 1) (-1) 0)) + (v 13 (v kr k))) + 0) + 2)) 43 (l_forecastOf_39 v (((v 2 0) - 0).toNat + 1) (-1) 0) (v 12 (v kr k)))).trans ((upv_nk (by omega)).trans ((upv_nk (by omega)).trans rfl))
          · rw [l_forecastOf_25, if_neg c11, if_neg c20, if_pos c22, if_neg c23]
            exact (ih (((v 42 (l_forecastOf_39 v (((v 2 0) - 0).toNat + 1) (-1) 0)) + (v 13 (v kr k))) + 0) (k + 1) (upv (upv v 42 (l_forecastOf_39 v (((v 2 0) - 0).toNat + 1) (-1) 0) ((((v 42 (l_forecastOf_39 v (((v 2 0) - 0).toNat + 1) (-1) 0)) + (v 13 (v kr k))) + 0) + 2)) 43 (l_forecastOf_39 v (((v 2 0) - 0).toNat + 1) (-1) 0) (v 12 (v kr k)))).trans ((upv_nk (by omega)).trans ((upv_nk (by omega)).trans rfl))
        · by_cases c24 : (((v 42 (l_forecastOf_39 v (((v 2 0) - 0).toNat + 1) (-1) 0)) + (v 13 (v kr k))) + 1) ≤ last
          · rw [l_forecastOf_25, if_neg c11, if_neg c20, if_neg c22, if_pos c24]
            exact (ih last (k + 1) (upv (upv v 42 (l_forecastOf_39 v (((v 2 0) - 0).toNat + 1) (-1) 0) ((((v 42 (l_forecastOf_39 v (((v 2 0) - 0).toNat + 1) (-1) 0)) + (v 13 (v kr k))) + 1) + 2)) 43 (l_forecastOf_39 v (((v 2 0) - 0).toNat + 1) (-1) 0) (v 12 (v kr k)))).trans ((upv_nk (by omega)).trans ((upv_nk (by omega)).trans rfl))
          · rw [l_forecastOf_25, if_neg c11, if_neg c20, if_neg c22, if_neg c24]
            exact (ih (((v 42 (l_forecastOf_39 v (((v 2 0) - 0).toNat + 1) (-1) 0)) + (v 13 (v kr k))) + 1) (k + 1) (upv (upv v 42 (l_forecastOf_39 v (((v 2 0) - 0).toNat + 1) (-1) 0) ((((v 42 (l_forecastOf_39 v (((v 2 0) - 0).toNat + 1) (-1) 0)) + (v 13 (v kr k))) + 1) + 2)) 43 (l_forecastOf_39 v (((v 2 0) - 0).toNat + 1) (-1) 0) (v 12 (v kr k)))).trans ((upv_nk (by omega)).trans ((upv_nk (by omega)).trans rfl))
theorem i_l_forecastOf_25 {T E : Int} {kr : Nat} (hk : kr = 39 ∨ kr = 40) : ∀ (n : Nat) (last k : Int) (v : Vw) (hI : IM v T E) (hk0 : 0 ≤ k ∧ k ≤ 1000) (hl : 0 ≤ last ∧ last ≤ T + 300) (ht : HasF v) (hf : ∀ w, 0 ≤ w → w < v 2 0 → v 42 w ≤ T + 20 + 17 * k), IM (l_forecastOf_25 kr n last k v).2 T (E) ∧ (0 ≤ (l_forecastOf_25 kr n last k v).1 ∧ (l_forecastOf_25 kr n last k v).1 ≤ T + 300) := by
  intro n
  induction n with
  | zero =>
    intro last k v hI hk0 hl ht hf
    have hT := hI.1
    exact ⟨hI, (by show 0 ≤ 0 ∧ 0 ≤ T + 300; omega)⟩
  | succ n ih =>
    intro last k v hI hk0 hl ht hf
    have hT := hI.1
    have u2 : 0 ≤ v 2 0 ∧ v 2 0 ≤ 8 := hI.2 2 0
    have u7 : 0 ≤ v 7 0 ∧ v 7 0 ≤ 6 := hI.2 7 0
    by_cases c11 : (v 7 0) ≤ k
    · rw [l_forecastOf_25, if_pos c11]
      exact ⟨hI, (by show 0 ≤ last ∧ last ≤ T + 300; omega)⟩
    · have q12 := r_l_forecastOf_39 (v := v) (((v 2 0) - 0).toNat + 1) (-1) 0 (by omega) (by omega) (by omega) (by omega) (Or.inr ht)
      have q13 := hf (l_forecastOf_39 v (((v 2 0) - 0).toNat + 1) (-1) 0) (by omega) (by omega)
      have q14 : 0 ≤ v 2 0 ∧ v 2 0 ≤ 8 := hI.2 2 0
      have q15 : 0 ≤ v kr k ∧ v kr k ≤ 4 := by rcases hk with rfl | rfl <;> exact hI.2 _ k
      have q16 : 0 ≤ v 12 (v kr k) ∧ v 12 (v kr k) ≤ 3 := hI.2 12 (v kr k)
      have q17 : -T ≤ v 42 (l_forecastOf_39 v (((v 2 0) - 0).toNat + 1) (-1) 0) ∧ v 42 (l_forecastOf_39 v (((v 2 0) - 0).toNat + 1) (-1) 0) ≤ T + 300 := hI.2 42 (l_forecastOf_39 v (((v 2 0) - 0).toNat + 1) (-1) 0)
      have q18 : 0 ≤ v 13 (v kr k) ∧ v 13 (v kr k) ≤ 14 := hI.2 13 (v kr k)
      have q19 : -1 ≤ v 43 (l_forecastOf_39 v (((v 2 0) - 0).toNat + 1) (-1) 0) ∧ v 43 (l_forecastOf_39 v (((v 2 0) - 0).toNat + 1) (-1) 0) ≤ 3 := hI.2 43 (l_forecastOf_39 v (((v 2 0) - 0).toNat + 1) (-1) 0)
      by_cases c20 : (v 43 (l_forecastOf_39 v (((v 2 0) - 0).toNat + 1) (-1) 0)) = (-1)
      · by_cases c21 : (((v 42 (l_forecastOf_39 v (((v 2 0) - 0).toNat + 1) (-1) 0)) + (v 13 (v kr k))) + 0) ≤ last
        · rw [l_forecastOf_25, if_neg c11, if_pos c20, if_pos c21]
          exact ih last (k + 1) (upv (upv v 42 (l_forecastOf_39 v (((v 2 0) - 0).toNat + 1) (-1) 0) ((((v 42 (l_forecastOf_39 v (((v 2 0) - 0).toNat + 1) (-1) 0)) + (v 13 (v kr k))) + 0) + 2)) 43 (l_forecastOf_39 v (((v 2 0) - 0).toNat + 1) (-1) 0) (v 12 (v kr k))) ((hI.up 42 (l_forecastOf_39 v (((v 2 0) - 0).toNat + 1) (-1) 0) ((((v 42 (l_forecastOf_39 v (((v 2 0) - 0).toNat + 1) (-1) 0)) + (v 13 (v kr k))) + 0) + 2) (by show -T ≤ ((((v 42 (l_forecastOf_39 v (((v 2 0) - 0).toNat + 1) (-1) 0)) + (v 13 (v kr k))) + 0) + 2) ∧ ((((v 42 (l_forecastOf_39 v (((v 2 0) - 0).toNat + 1) (-1) 0)) + (v 13 (v kr k))) + 0) + 2) ≤ T + 300; omega)).up 43 (l_forecastOf_39 v (((v 2 0) - 0).toNat + 1) (-1) 0) (v 12 (v kr k)) (by show -1 ≤ (v 12 (v kr k)) ∧ (v 12 (v kr k)) ≤ 3; omega)) (by show 0 ≤ (k + 1) ∧ (k + 1) ≤ 1000; omega) (by show 0 ≤ last ∧ last ≤ T + 300; omega) (by exact ht) (by intro w h1 h2; have h3 := hf w h1 h2; unfold upv; repeat' split; all_goals omega)
        · rw [l_forecastOf_25, if_neg c11, if_pos c20, if_neg c21]
          exact ih (((v 42 (l_forecastOf_39 v (((v 2 0) - 0).toNat + 1) (-1) 0)) + (v 13 (v kr k))) + 0) (k + 1) (upv (upv v 42 (l_forecastOf_39 v (((v 2 0) - 0).toNat + 1) (-1) 0) ((((v 42 (l_forecastOf_39 v (((v 2 0) - 0).toNat + 1) (-1) 0)) + (v 13 (v kr k))) + 0) + 2)) 43 (l_forecastOf_39 v (((v 2 0) - 0).toNat + 1) (-1) 0) (v 12 (v kr k))) ((hI.up 42 (l_forecastOf_39 v (((v 2 0) - 0).toNat + 1) (-1) 0) ((((v 42 (l_forecastOf_39 v (((v 2 0) - 0).toNat + 1) (-1) 0)) + (v 13 (v kr k))) + 0) + 2) (by show -T ≤ ((((v 42 (l_forecastOf_39 v (((v 2 0) - 0).toNat + 1) (-1) 0)) + (v 13 (v kr k))) + 0) + 2) ∧ ((((v 42 (l_forecastOf_39 v (((v 2 0) - 0).toNat + 1) (-1) 0)) + (v 13 (v kr k))) + 0) + 2) ≤ T + 300; omega)).up 43 (l_forecastOf_39 v (((v 2 0) - 0).toNat + 1) (-1) 0) (v 12 (v kr k)) (by show -1 ≤ (v 12 (v kr k)) ∧ (v 12 (v kr k)) ≤ 3; omega)) (by show 0 ≤ (k + 1) ∧ (k + 1) ≤ 1000; omega) (by show 0 ≤ (((v 42 (l_forecastOf_39 v (((v 2 0) - 0).toNat + 1) (-1) 0)) + (v 13 (v kr k))) + 0) ∧ (((v 42 (l_forecastOf_39 v (((v 2 0) - 0).toNat + 1) (-1) 0)) + (v 13 (v kr k))) + 0) ≤ T + 300; omega) (by exact ht) (by intro w h1 h2; have h3 := hf w h1 h2; unfold upv; repeat' split; all_goals omega)
      · by_cases c22 : (v 43 (l_forecastOf_39 v (((v 2 0) - 0).toNat + 1) (-1) 0)) = (v 12 (v kr k))
        · by_cases c23 : (((v 42 (l_forecastOf_39 v (((v 2 0) - 0).toNat + 1) (-1) 0)) + (v 13 (v kr k))) + 0) ≤ last
          · rw [l_forecastOf_25, if_neg c11, if_neg c20, if_pos c22, if_pos c23]
            exact ih last (k + 1) (upv (upv v 42 (l_forecastOf_39 v (((v 2 0) - 0).toNat + 1) (-1) 0) ((((v 42 (l_forecastOf_39 v (((v 2 0) - 0).toNat + 1) (-1) 0)) + (v 13 (v kr k))) + 0) + 2)) 43 (l_forecastOf_39 v (((v 2 0) - 0).toNat + 1) (-1) 0) (v 12 (v kr k))) ((hI.up 42 (l_forecastOf_39 v (((v 2 0) - 0).toNat + 1) (-1) 0) ((((v 42 (l_forecastOf_39 v (((v 2 0) - 0).toNat + 1) (-1) 0)) + (v 13 (v kr k))) + 0) + 2) (by show -T ≤ ((((v 42 (l_forecastOf_39 v (((v 2 0) - 0).toNat + 1) (-1) 0)) + (v 13 (v kr k))) + 0) + 2) ∧ ((((v 42 (l_forecastOf_39 v (((v 2 0) - 0).toNat + 1) (-1) 0)) + (v 13 (v kr k))) + 0) + 2) ≤ T + 300; omega)).up 43 (l_forecastOf_39 v (((v 2 0) - 0).toNat + 1) (-1) 0) (v 12 (v kr k)) (by show -1 ≤ (v 12 (v kr k)) ∧ (v 12 (v kr k)) ≤ 3; omega)) (by show 0 ≤ (k + 1) ∧ (k + 1) ≤ 1000; omega) (by show 0 ≤ last ∧ last ≤ T + 300; omega) (by exact ht) (by intro w h1 h2; have h3 := hf w h1 h2; unfold upv; repeat' split; all_goals omega)
          · rw [l_forecastOf_25, if_neg c11, if_neg c20, if_pos c22, if_neg c23]
            exact ih (((v 42 (l_forecastOf_39 v (((v 2 0) - 0).toNat + 1) (-1) 0)) + (v 13 (v kr k))) + 0) (k + 1) (upv (upv v 42 (l_forecastOf_39 v (((v 2 0) - 0).toNat + 1) (-1) 0) ((((v 42 (l_forecastOf_39 v (((v 2 0) - 0).toNat + 1) (-1) 0)) + (v 13 (v kr k))) + 0) + 2)) 43 (l_forecastOf_39 v (((v 2 0) - 0).toNat + 1) (-1) 0) (v 12 (v kr k))) ((hI.up 42 (l_forecastOf_39 v (((v 2 0) - 0).toNat + 1) (-1) 0) ((((v 42 (l_forecastOf_39 v (((v 2 0) - 0).toNat + 1) (-1) 0)) + (v 13 (v kr k))) + 0) + 2) (by show -T ≤ ((((v 42 (l_forecastOf_39 v (((v 2 0) - 0).toNat + 1) (-1) 0)) + (v 13 (v kr k))) + 0) + 2) ∧ ((((v 42 (l_forecastOf_39 v (((v 2 0) - 0).toNat + 1) (-1) 0)) + (v 13 (v kr k))) + 0) + 2) ≤ T + 300; omega)).up 43 (l_forecastOf_39 v (((v 2 0) - 0).toNat + 1) (-1) 0) (v 12 (v kr k)) (by show -1 ≤ (v 12 (v kr k)) ∧ (v 12 (v kr k)) ≤ 3; omega)) (by show 0 ≤ (k + 1) ∧ (k + 1) ≤ 1000; omega) (by show 0 ≤ (((v 42 (l_forecastOf_39 v (((v 2 0) - 0).toNat + 1) (-1) 0)) + (v 13 (v kr k))) + 0) ∧ (((v 42 (l_forecastOf_39 v (((v 2 0) - 0).toNat + 1) (-1) 0)) + (v 13 (v kr k))) + 0) ≤ T + 300; omega) (by exact ht) (by intro w h1 h2; have h3 := hf w h1 h2; unfold upv; repeat' split; all_goals omega)
        · by_cases c24 : (((v 42 (l_forecastOf_39 v (((v 2 0) - 0).toNat + 1) (-1) 0)) + (v 13 (v kr k))) + 1) ≤ last
          · rw [l_forecastOf_25, if_neg c11, if_neg c20, if_neg c22, if_pos c24]
            exact ih last (k + 1) (upv (upv v 42 (l_forecastOf_39 v (((v 2 0) - 0).toNat + 1) (-1) 0) ((((v 42 (l_forecastOf_39 v (((v 2 0) - 0).toNat + 1) (-1) 0)) + (v 13 (v kr k))) + 1) + 2)) 43 (l_forecastOf_39 v (((v 2 0) - 0).toNat + 1) (-1) 0) (v 12 (v kr k))) ((hI.up 42 (l_forecastOf_39 v (((v 2 0) - 0).toNat + 1) (-1) 0) ((((v 42 (l_forecastOf_39 v (((v 2 0) - 0).toNat + 1) (-1) 0)) + (v 13 (v kr k))) + 1) + 2) (by show -T ≤ ((((v 42 (l_forecastOf_39 v (((v 2 0) - 0).toNat + 1) (-1) 0)) + (v 13 (v kr k))) + 1) + 2) ∧ ((((v 42 (l_forecastOf_39 v (((v 2 0) - 0).toNat + 1) (-1) 0)) + (v 13 (v kr k))) + 1) + 2) ≤ T + 300; omega)).up 43 (l_forecastOf_39 v (((v 2 0) - 0).toNat + 1) (-1) 0) (v 12 (v kr k)) (by show -1 ≤ (v 12 (v kr k)) ∧ (v 12 (v kr k)) ≤ 3; omega)) (by show 0 ≤ (k + 1) ∧ (k + 1) ≤ 1000; omega) (by show 0 ≤ last ∧ last ≤ T + 300; omega) (by exact ht) (by intro w h1 h2; have h3 := hf w h1 h2; unfold upv; repeat' split; all_goals omega)
          · rw [l_forecastOf_25, if_neg c11, if_neg c20, if_neg c22, if_neg c24]
            exact ih (((v 42 (l_forecastOf_39 v (((v 2 0) - 0).toNat + 1) (-1) 0)) + (v 13 (v kr k))) + 1) (k + 1) (upv (upv v 42 (l_forecastOf_39 v (((v 2 0) - 0).toNat + 1) (-1) 0) ((((v 42 (l_forecastOf_39 v (((v 2 0) - 0).toNat + 1) (-1) 0)) + (v 13 (v kr k))) + 1) + 2)) 43 (l_forecastOf_39 v (((v 2 0) - 0).toNat + 1) (-1) 0) (v 12 (v kr k))) ((hI.up 42 (l_forecastOf_39 v (((v 2 0) - 0).toNat + 1) (-1) 0) ((((v 42 (l_forecastOf_39 v (((v 2 0) - 0).toNat + 1) (-1) 0)) + (v 13 (v kr k))) + 1) + 2) (by show -T ≤ ((((v 42 (l_forecastOf_39 v (((v 2 0) - 0).toNat + 1) (-1) 0)) + (v 13 (v kr k))) + 1) + 2) ∧ ((((v 42 (l_forecastOf_39 v (((v 2 0) - 0).toNat + 1) (-1) 0)) + (v 13 (v kr k))) + 1) + 2) ≤ T + 300; omega)).up 43 (l_forecastOf_39 v (((v 2 0) - 0).toNat + 1) (-1) 0) (v 12 (v kr k)) (by show -1 ≤ (v 12 (v kr k)) ∧ (v 12 (v kr k)) ≤ 3; omega)) (by show 0 ≤ (k + 1) ∧ (k + 1) ≤ 1000; omega) (by show 0 ≤ (((v 42 (l_forecastOf_39 v (((v 2 0) - 0).toNat + 1) (-1) 0)) + (v 13 (v kr k))) + 1) ∧ (((v 42 (l_forecastOf_39 v (((v 2 0) - 0).toNat + 1) (-1) 0)) + (v 13 (v kr k))) + 1) ≤ T + 300; omega) (by exact ht) (by intro w h1 h2; have h3 := hf w h1 h2; unfold upv; repeat' split; all_goals omega)
def f_forecastOf (kr : Nat) (v : Vw) : Int × Vw :=
  (l_forecastOf_25 kr (((v 7 0) - 0).toNat + 1) 0 0 (l_forecastOf_4 (((v 2 0) - 0).toNat + 1) 0 v))
theorem s_X11_forecastOf {X : Cx} {σ : Hp} {m0 : Nat} {v : Vw} {T E : Int} {kr : Nat} (hG : GM σ m0) (hI : IM v T E) (hk : kr = 39 ∨ kr = 40) (ht : HasF v) : Ct X m_X11_forecastOf 2 [va_rf (some m0), va_rf (some (m0 + (kr - 11)))] (Hm σ m0 v) (.inl (some (.int (i32 (f_forecastOf kr v).1)))) (Hm σ m0 (f_forecastOf kr v).2) := by
  have hT := hI.1
  refine Ct.of (by decide +kernel) rfl (Nat.le_of_ble_eq_true rfl) (by simp [Value.category, va_rf]) ?_
  refine Ei.const dX11_forecastOf_0 ?_
  refine Ev.istore_n (i := 2) dX11_forecastOf_1 rfl (by decide) ?_
  refine Ei.const dX11_forecastOf_2 ?_
  refine Ev.istore_n (i := 3) dX11_forecastOf_3 rfl (by decide) ?_
  refine Ev.fgt (ls' := [some (va_rf (some m0)), some (va_rf (some (m0 + (kr - 11)))), some (.int (i32 0)), some (.int (i32 0)), none, none, none]) ⟨rfl, ⟨rfl, ⟨rfl, ⟨rfl, trivial⟩⟩⟩⟩ ?_
  refine s_l_forecastOf_4 hG  (((v 2 0) - 0).toNat + 1) 0 v hI (by show 0 ≤ 0 ∧ 0 ≤ 100; omega) (by show ((v 2 0) - 0).toNat < (((v 2 0) - 0).toNat + 1); omega) ?_
  have hJ25 := i_l_forecastOf_4  (((v 2 0) - 0).toNat + 1) 0 v hI (by show 0 ≤ 0 ∧ 0 ≤ 100; omega)
  refine Ei.const dX11_forecastOf_23 ?_
  refine Ev.istore_n (i := 3) dX11_forecastOf_24 rfl (by decide) ?_
  have q26 : (l_forecastOf_4 (((v 2 0) - 0).toNat + 1) 0 v) 7 0 = v 7 0 := (fr_l_forecastOf_4 (((v 2 0) - 0).toNat + 1) 0 v 7 0 (by decide)).trans rfl
  refine Ev.fgt (ls' := [some (va_rf (some m0)), some (va_rf (some (m0 + (kr - 11)))), some (.int (i32 0)), some (.int (i32 0)), none, none, none]) ⟨rfl, ⟨rfl, ⟨rfl, ⟨rfl, trivial⟩⟩⟩⟩ ?_
  rw [f_forecastOf]
  exact s_l_forecastOf_25 hG hk (((v 7 0) - 0).toNat + 1) 0 0 (l_forecastOf_4 (((v 2 0) - 0).toNat + 1) 0 v) hJ25 (by show 0 ≤ 0 ∧ 0 ≤ 1000; omega) (by show 0 ≤ 0 ∧ 0 ≤ T + 300; omega) (by obtain ⟨w, h1, h2, h3⟩ := ht; exact ⟨w, h1, by rw [fr_l_forecastOf_4 _ _ _ _ _ (by decide)]; exact h2, by rw [fr_l_forecastOf_4 _ _ _ _ _ (by decide)]; exact h3⟩) (by intro w h1 h2; rw [fr_l_forecastOf_4 _ _ _ _ _ (by decide)] at h2; have h3 := up_l_forecastOf_4 ((v 2 0 - 0).toNat + 1) 0 v hI (by omega) (by omega) w (by omega) h2; omega) (by show (((l_forecastOf_4 (((v 2 0) - 0).toNat + 1) 0 v) 7 0) - 0).toNat < (((v 7 0) - 0).toNat + 1); omega)
theorem i_forecastOf {v : Vw} {T E : Int} {kr : Nat} (hI : IM v T E) (hk : kr = 39 ∨ kr = 40) (ht : HasF v) : IM (f_forecastOf kr v).2 T (E) ∧ (0 ≤ (f_forecastOf kr v).1 ∧ (f_forecastOf kr v).1 ≤ T + 300) := by
  have hT := hI.1
  have hJ25 := i_l_forecastOf_4  (((v 2 0) - 0).toNat + 1) 0 v hI (by show 0 ≤ 0 ∧ 0 ≤ 100; omega)
  have q26 : (l_forecastOf_4 (((v 2 0) - 0).toNat + 1) 0 v) 7 0 = v 7 0 := (fr_l_forecastOf_4 (((v 2 0) - 0).toNat + 1) 0 v 7 0 (by decide)).trans rfl
  rw [f_forecastOf]
  exact i_l_forecastOf_25 hk (((v 7 0) - 0).toNat + 1) 0 0 (l_forecastOf_4 (((v 2 0) - 0).toNat + 1) 0 v) hJ25 (by show 0 ≤ 0 ∧ 0 ≤ 1000; omega) (by show 0 ≤ 0 ∧ 0 ≤ T + 300; omega) (by obtain ⟨w, h1, h2, h3⟩ := ht; exact ⟨w, h1, by rw [fr_l_forecastOf_4 _ _ _ _ _ (by decide)]; exact h2, by rw [fr_l_forecastOf_4 _ _ _ _ _ (by decide)]; exact h3⟩) (by intro w h1 h2; rw [fr_l_forecastOf_4 _ _ _ _ _ (by decide)] at h2; have h3 := up_l_forecastOf_4 ((v 2 0 - 0).toNat + 1) 0 v hI (by omega) (by omega) w (by omega) h2; omega)
theorem fr_forecastOf {kr : Nat} {v : Vw} (fk : Nat) (fi : Int) (hk : fk ≠ 42 ∧ fk ≠ 43) : (f_forecastOf kr v).2 fk fi = v fk fi := by
  rw [f_forecastOf]
  exact (fr_l_forecastOf_25 (((v 7 0) - 0).toNat + 1) 0 0 (l_forecastOf_4 (((v 2 0) - 0).toNat + 1) 0 v) fk fi (by omega)).trans ((fr_l_forecastOf_4 (((v 2 0) - 0).toNat + 1) 0 v fk fi (by omega)).trans rfl)
def f_swaps (a b : Int) (v : Vw) : Vw :=
  (upv (upv v 40 a (v 40 b)) 40 b (v 40 a))
theorem s_X11_swaps {X : Cx} {σ : Hp} {m0 : Nat} {v : Vw} {T E : Int} {a b : Int} (hG : GM σ m0) (hI : IM v T E) (ha : 0 ≤ a ∧ a ≤ 5) (hb : 0 ≤ b ∧ b ≤ 5) : Ct X m_X11_swaps 1 [va_rf (some m0), .int (i32 a), .int (i32 b)] (Hm σ m0 v) (.inl none) (Hm σ m0 (f_swaps a b v)) := by
  have hT := hI.1
  refine Ct.of (by decide +kernel) rfl (Nat.le_of_ble_eq_true rfl) (by simp [Value.category, va_rf]) ?_
  refine Ev.aload_n (i := 0) dX11_swaps_0 rfl rfl ?_
  refine Em.gA (k := 40) hG (by decide) (by decide) (tb7 (i := 10) rfl) rfl rfl dX11_swaps_1 ?_
  refine Ev.iload_n (i := 1) dX11_swaps_4 rfl rfl ?_
  have q1 : 0 ≤ v 40 a ∧ v 40 a ≤ 4 := hI.2 40 a
  refine Ex.iald (k := 40) (v 40 a) rfl hG (by decide) (by decide) rfl (by omega) (by show _ < ((6 : Nat) : Int); omega) (by decide) dX11_swaps_5 ?_
  refine Ev.istore_n (i := 3) dX11_swaps_6 rfl (by decide) ?_
  refine Ev.aload_n (i := 0) dX11_swaps_7 rfl rfl ?_
  refine Em.gA (k := 40) hG (by decide) (by decide) (tb7 (i := 10) rfl) rfl rfl dX11_swaps_8 ?_
  refine Ev.iload_n (i := 1) dX11_swaps_11 rfl rfl ?_
  refine Ev.aload_n (i := 0) dX11_swaps_12 rfl rfl ?_
  refine Em.gA (k := 40) hG (by decide) (by decide) (tb7 (i := 10) rfl) rfl rfl dX11_swaps_13 ?_
  refine Ev.iload_n (i := 2) dX11_swaps_16 rfl rfl ?_
  have q2 : 0 ≤ v 40 b ∧ v 40 b ≤ 4 := hI.2 40 b
  refine Ex.iald (k := 40) (v 40 b) rfl hG (by decide) (by decide) rfl (by omega) (by show _ < ((6 : Nat) : Int); omega) (by decide) dX11_swaps_17 ?_
  refine Em.iast (k := 40) hG (by decide) (by decide) rfl (by omega) (by show _ < ((6 : Nat) : Int); omega) (by decide) dX11_swaps_18 ?_
  refine Ev.aload_n (i := 0) dX11_swaps_19 rfl rfl ?_
  refine Em.gA (k := 40) hG (by decide) (by decide) (tb7 (i := 10) rfl) rfl rfl dX11_swaps_20 ?_
  refine Ev.iload_n (i := 2) dX11_swaps_23 rfl rfl ?_
  refine Ev.iload_n (i := 3) dX11_swaps_24 rfl rfl ?_
  refine Em.iast (k := 40) hG (by decide) (by decide) rfl (by omega) (by show _ < ((6 : Nat) : Int); omega) (by decide) dX11_swaps_25 ?_
  exact Ev.vretE rfl dX11_swaps_26 rfl (by first | rfl | (rw [f_swaps]; try rfl))
theorem i_swaps {v : Vw} {T E : Int} {a b : Int} (hI : IM v T E) (ha : 0 ≤ a ∧ a ≤ 5) (hb : 0 ≤ b ∧ b ≤ 5) : IM (f_swaps a b v) T (E) := by
  have hT := hI.1
  have q1 : 0 ≤ v 40 a ∧ v 40 a ≤ 4 := hI.2 40 a
  have q2 : 0 ≤ v 40 b ∧ v 40 b ≤ 4 := hI.2 40 b
  rw [f_swaps]
  exact ((hI.up 40 a (v 40 b) (by show 0 ≤ (v 40 b) ∧ (v 40 b) ≤ 4; omega)).up 40 b (v 40 a) (by show 0 ≤ (v 40 a) ∧ (v 40 a) ≤ 4; omega))
theorem fr_swaps {a b : Int} {v : Vw} (fk : Nat) (fi : Int) (hk : fk ≠ 40) : (f_swaps a b v) fk fi = v fk fi := by
  rw [f_swaps]
  exact ((upv_nk (by omega)).trans ((upv_nk (by omega)).trans rfl))
