/-! the reference: forecasts (written by wip/whole/mk16.py) -/
def f_frees (w : Int) (v : Vw) : Vw :=
  if (v 15 w) = 1 then
    if (v 28 (v 16 w)) = 0 then
      if (v 15 w) = 0 then
        (upv (upv v 42 w (v 8 0)) 43 w (v 19 w))
      else
        if (v 15 w) = 3 then
          (upv (upv v 42 w ((v 8 0) + (v 17 w))) 43 w (v 19 w))
        else
          (upv (upv v 42 w (((v 8 0) + (v 30 (v 16 w))) + 2)) 43 w (v 19 w))
    else
      if (v 15 w) = 0 then
        (upv (upv v 42 w (v 8 0)) 43 w (v 19 w))
      else
        if (v 15 w) = 3 then
          (upv (upv v 42 w ((v 8 0) + (v 17 w))) 43 w (v 19 w))
        else
          (upv (upv v 42 w ((v 8 0) + 2)) 43 w (v 19 w))
  else
    if (v 15 w) = 0 then
      (upv (upv v 42 w (v 8 0)) 43 w (v 19 w))
    else
      if (v 15 w) = 3 then
        (upv (upv v 42 w ((v 8 0) + (v 17 w))) 43 w (v 19 w))
      else
        (upv (upv v 42 w ((v 8 0) + 2)) 43 w (v 19 w))
theorem s_X11_frees {X : Cx} {σ : Hp} {m0 : Nat} {v : Vw} {T E : Int} {w : Int} (hG : GM σ m0) (hI : IM v T E) (hw : 0 ≤ w ∧ w ≤ 7) : Ct X m_X11_frees 1 [va_rf (some m0), .int (i32 w)] (Hm σ m0 v) (.inl none) (Hm σ m0 (f_frees w v)) := by
  have hT := hI.1
  refine Ct.of (by decide +kernel) rfl (Nat.le_of_ble_eq_true rfl) (by simp [Value.category, va_rf]) ?_
  refine Ev.aload_n (i := 0) dX11_frees_0 rfl rfl ?_
  refine Em.gA (k := 16) hG (by decide) (by decide) (tb6 (i := 226) rfl) rfl rfl dX11_frees_1 ?_
  refine Ev.iload_n (i := 1) dX11_frees_4 rfl rfl ?_
  have q1 : 0 ≤ v 16 w ∧ v 16 w ≤ 29 := hI.2 16 w
  refine Ex.iald (k := 16) (v 16 w) rfl hG (by decide) (by decide) rfl (by omega) (by show _ < ((8 : Nat) : Int); omega) (by decide) dX11_frees_5 ?_
  refine Ev.istore_n (i := 2) dX11_frees_6 rfl (by decide) ?_
  refine Ev.aload_n (i := 0) dX11_frees_7 rfl rfl ?_
  refine Em.gA (k := 15) hG (by decide) (by decide) (tb6 (i := 225) rfl) rfl rfl dX11_frees_8 ?_
  refine Ev.iload_n (i := 1) dX11_frees_11 rfl rfl ?_
  have q2 : 0 ≤ v 15 w ∧ v 15 w ≤ 3 := hI.2 15 w
  refine Ex.iald (k := 15) (v 15 w) rfl hG (by decide) (by decide) rfl (by omega) (by show _ < ((8 : Nat) : Int); omega) (by decide) dX11_frees_12 ?_
  refine Ei.const dX11_frees_13 ?_
  refine Ex.icmp_ne (tgt := 30) dX11_frees_14 (by decide) ⟨by omega, by omega⟩ ⟨by omega, by omega⟩ (fun c3 => ?_) (fun c3 => ?_)
  · refine Ev.aload_n (i := 0) dX11_frees_17 rfl rfl ?_
    refine Em.gA (k := 28) hG (by decide) (by decide) (tb6 (i := 238) rfl) rfl rfl dX11_frees_18 ?_
    refine Ev.iload_n (i := 2) dX11_frees_21 rfl rfl ?_
    have q4 : 0 ≤ v 28 (v 16 w) ∧ v 28 (v 16 w) ≤ 4 := hI.2 28 (v 16 w)
    refine Ex.iald (k := 28) (v 28 (v 16 w)) rfl hG (by decide) (by decide) rfl (by omega) (by show _ < ((30 : Nat) : Int); omega) (by decide) dX11_frees_22 ?_
    refine Ex.if_ne (tgt := 30) dX11_frees_23 (by decide) ⟨by omega, by omega⟩ (fun c5 => ?_) (fun c5 => ?_)
    · refine Ei.const dX11_frees_26 ?_
      refine Ev.goto (tgt := 31) dX11_frees_27 (by decide) ?_
      refine Ev.istore_n (i := 3) dX11_frees_31 rfl (by decide) ?_
      refine Ev.aload_n (i := 0) dX11_frees_32 rfl rfl ?_
      refine Em.gA (k := 42) hG (by decide) (by decide) (tb7 (i := 12) rfl) rfl rfl dX11_frees_33 ?_
      refine Ev.iload_n (i := 1) dX11_frees_36 rfl rfl ?_
      refine Ev.aload_n (i := 0) dX11_frees_37 rfl rfl ?_
      refine Em.gA (k := 15) hG (by decide) (by decide) (tb6 (i := 225) rfl) rfl rfl dX11_frees_38 ?_
      refine Ev.iload_n (i := 1) dX11_frees_41 rfl rfl ?_
      refine Ex.iald (k := 15) (v 15 w) rfl hG (by decide) (by decide) rfl (by omega) (by show _ < ((8 : Nat) : Int); omega) (by decide) dX11_frees_42 ?_
      refine Ex.if_ne (tgt := 53) dX11_frees_43 (by decide) ⟨by omega, by omega⟩ (fun c6 => ?_) (fun c6 => ?_)
      · refine Ev.aload_n (i := 0) dX11_frees_46 rfl rfl ?_
        have q7 : 0 ≤ v 8 0 ∧ v 8 0 ≤ T := hI.2 8 0
        refine Ex.gS (k := 8) (v 8 0) rfl hG (by decide) (tb6 (i := 218) rfl) rfl rfl dX11_frees_47 ?_
        refine Ev.goto (tgt := 103) dX11_frees_50 (by decide) ?_
        refine Em.iast (k := 42) hG (by decide) (by decide) rfl (by omega) (by show _ < ((8 : Nat) : Int); omega) (by decide) dX11_frees_103 ?_
        refine Ev.aload_n (i := 0) dX11_frees_104 rfl rfl ?_
        refine Em.gA (k := 43) hG (by decide) (by decide) (tb7 (i := 13) rfl) rfl rfl dX11_frees_105 ?_
        refine Ev.iload_n (i := 1) dX11_frees_108 rfl rfl ?_
        refine Ev.aload_n (i := 0) dX11_frees_109 rfl rfl ?_
        refine Em.gA (k := 19) hG (by decide) (by decide) (tb6 (i := 229) rfl) rfl rfl dX11_frees_110 ?_
        refine Ev.iload_n (i := 1) dX11_frees_113 rfl rfl ?_
        have q8 : -1 ≤ v 19 w ∧ v 19 w ≤ 3 := hI.2 19 w
        refine Ex.iald (k := 19) (v 19 w) rfl hG (by decide) (by decide) rfl (by omega) (by show _ < ((8 : Nat) : Int); omega) (by decide) dX11_frees_114 ?_
        refine Em.iast (k := 43) hG (by decide) (by decide) rfl (by omega) (by show _ < ((8 : Nat) : Int); omega) (by decide) dX11_frees_115 ?_
        exact Ev.vretE rfl dX11_frees_116 rfl (by first | rfl | (rw [f_frees, if_pos c3, if_pos c5, if_pos c6]; try rfl))
      · refine Ev.aload_n (i := 0) dX11_frees_53 rfl rfl ?_
        refine Em.gA (k := 15) hG (by decide) (by decide) (tb6 (i := 225) rfl) rfl rfl dX11_frees_54 ?_
        refine Ev.iload_n (i := 1) dX11_frees_57 rfl rfl ?_
        refine Ex.iald (k := 15) (v 15 w) rfl hG (by decide) (by decide) rfl (by omega) (by show _ < ((8 : Nat) : Int); omega) (by decide) dX11_frees_58 ?_
        refine Ei.const dX11_frees_59 ?_
        refine Ex.icmp_ne (tgt := 77) dX11_frees_60 (by decide) ⟨by omega, by omega⟩ ⟨by omega, by omega⟩ (fun c9 => ?_) (fun c9 => ?_)
        · refine Ev.aload_n (i := 0) dX11_frees_63 rfl rfl ?_
          have q10 : 0 ≤ v 8 0 ∧ v 8 0 ≤ T := hI.2 8 0
          refine Ex.gS (k := 8) (v 8 0) rfl hG (by decide) (tb6 (i := 218) rfl) rfl rfl dX11_frees_64 ?_
          refine Ev.aload_n (i := 0) dX11_frees_67 rfl rfl ?_
          refine Em.gA (k := 17) hG (by decide) (by decide) (tb6 (i := 227) rfl) rfl rfl dX11_frees_68 ?_
          refine Ev.iload_n (i := 1) dX11_frees_71 rfl rfl ?_
          have q11 : 0 ≤ v 17 w ∧ v 17 w ≤ 2 := hI.2 17 w
          refine Ex.iald (k := 17) (v 17 w) rfl hG (by decide) (by decide) rfl (by omega) (by show _ < ((8 : Nat) : Int); omega) (by decide) dX11_frees_72 ?_
          refine Ei.add dX11_frees_73 ?_
          refine Ev.goto (tgt := 103) dX11_frees_74 (by decide) ?_
          refine Em.iast (k := 42) hG (by decide) (by decide) rfl (by omega) (by show _ < ((8 : Nat) : Int); omega) (by decide) dX11_frees_103 ?_
          refine Ev.aload_n (i := 0) dX11_frees_104 rfl rfl ?_
          refine Em.gA (k := 43) hG (by decide) (by decide) (tb7 (i := 13) rfl) rfl rfl dX11_frees_105 ?_
          refine Ev.iload_n (i := 1) dX11_frees_108 rfl rfl ?_
          refine Ev.aload_n (i := 0) dX11_frees_109 rfl rfl ?_
          refine Em.gA (k := 19) hG (by decide) (by decide) (tb6 (i := 229) rfl) rfl rfl dX11_frees_110 ?_
          refine Ev.iload_n (i := 1) dX11_frees_113 rfl rfl ?_
          have q12 : -1 ≤ v 19 w ∧ v 19 w ≤ 3 := hI.2 19 w
          refine Ex.iald (k := 19) (v 19 w) rfl hG (by decide) (by decide) rfl (by omega) (by show _ < ((8 : Nat) : Int); omega) (by decide) dX11_frees_114 ?_
          refine Em.iast (k := 43) hG (by decide) (by decide) rfl (by omega) (by show _ < ((8 : Nat) : Int); omega) (by decide) dX11_frees_115 ?_
          exact Ev.vretE rfl dX11_frees_116 rfl (by first | rfl | (rw [f_frees, if_pos c3, if_pos c5, if_neg c6, if_pos c9]; try rfl))
        · refine Ev.iload_n (i := 3) dX11_frees_77 rfl rfl ?_
          refine Ei.if_eq_f (tgt := 97) dX11_frees_78 (by decide) ⟨by omega, by omega⟩ (by omega) ?_
          refine Ev.aload_n (i := 0) dX11_frees_81 rfl rfl ?_
          have q13 : 0 ≤ v 8 0 ∧ v 8 0 ≤ T := hI.2 8 0
          refine Ex.gS (k := 8) (v 8 0) rfl hG (by decide) (tb6 (i := 218) rfl) rfl rfl dX11_frees_82 ?_
          refine Ev.aload_n (i := 0) dX11_frees_85 rfl rfl ?_
          refine Em.gA (k := 30) hG (by decide) (by decide) (tb7 (i := 0) rfl) rfl rfl dX11_frees_86 ?_
          refine Ev.iload_n (i := 2) dX11_frees_89 rfl rfl ?_
          have q14 : 0 ≤ v 30 (v 16 w) ∧ v 30 (v 16 w) ≤ 15 := hI.2 30 (v 16 w)
          refine Ex.iald (k := 30) (v 30 (v 16 w)) rfl hG (by decide) (by decide) rfl (by omega) (by show _ < ((30 : Nat) : Int); omega) (by decide) dX11_frees_90 ?_
          refine Ei.add dX11_frees_91 ?_
          refine Ei.const dX11_frees_92 ?_
          refine Ei.add dX11_frees_93 ?_
          refine Ev.goto (tgt := 103) dX11_frees_94 (by decide) ?_
          refine Em.iast (k := 42) hG (by decide) (by decide) rfl (by omega) (by show _ < ((8 : Nat) : Int); omega) (by decide) dX11_frees_103 ?_
          refine Ev.aload_n (i := 0) dX11_frees_104 rfl rfl ?_
          refine Em.gA (k := 43) hG (by decide) (by decide) (tb7 (i := 13) rfl) rfl rfl dX11_frees_105 ?_
          refine Ev.iload_n (i := 1) dX11_frees_108 rfl rfl ?_
          refine Ev.aload_n (i := 0) dX11_frees_109 rfl rfl ?_
          refine Em.gA (k := 19) hG (by decide) (by decide) (tb6 (i := 229) rfl) rfl rfl dX11_frees_110 ?_
          refine Ev.iload_n (i := 1) dX11_frees_113 rfl rfl ?_
          have q15 : -1 ≤ v 19 w ∧ v 19 w ≤ 3 := hI.2 19 w
          refine Ex.iald (k := 19) (v 19 w) rfl hG (by decide) (by decide) rfl (by omega) (by show _ < ((8 : Nat) : Int); omega) (by decide) dX11_frees_114 ?_
          refine Em.iast (k := 43) hG (by decide) (by decide) rfl (by omega) (by show _ < ((8 : Nat) : Int); omega) (by decide) dX11_frees_115 ?_
          exact Ev.vretE rfl dX11_frees_116 rfl (by first | rfl | (rw [f_frees, if_pos c3, if_pos c5, if_neg c6, if_neg c9]; try rfl))
    · refine Ei.const dX11_frees_30 ?_
      refine Ev.istore_n (i := 3) dX11_frees_31 rfl (by decide) ?_
      refine Ev.aload_n (i := 0) dX11_frees_32 rfl rfl ?_
      refine Em.gA (k := 42) hG (by decide) (by decide) (tb7 (i := 12) rfl) rfl rfl dX11_frees_33 ?_
      refine Ev.iload_n (i := 1) dX11_frees_36 rfl rfl ?_
      refine Ev.aload_n (i := 0) dX11_frees_37 rfl rfl ?_
      refine Em.gA (k := 15) hG (by decide) (by decide) (tb6 (i := 225) rfl) rfl rfl dX11_frees_38 ?_
      refine Ev.iload_n (i := 1) dX11_frees_41 rfl rfl ?_
      refine Ex.iald (k := 15) (v 15 w) rfl hG (by decide) (by decide) rfl (by omega) (by show _ < ((8 : Nat) : Int); omega) (by decide) dX11_frees_42 ?_
      refine Ex.if_ne (tgt := 53) dX11_frees_43 (by decide) ⟨by omega, by omega⟩ (fun c16 => ?_) (fun c16 => ?_)
      · refine Ev.aload_n (i := 0) dX11_frees_46 rfl rfl ?_
        have q17 : 0 ≤ v 8 0 ∧ v 8 0 ≤ T := hI.2 8 0
        refine Ex.gS (k := 8) (v 8 0) rfl hG (by decide) (tb6 (i := 218) rfl) rfl rfl dX11_frees_47 ?_
        refine Ev.goto (tgt := 103) dX11_frees_50 (by decide) ?_
        refine Em.iast (k := 42) hG (by decide) (by decide) rfl (by omega) (by show _ < ((8 : Nat) : Int); omega) (by decide) dX11_frees_103 ?_
        refine Ev.aload_n (i := 0) dX11_frees_104 rfl rfl ?_
        refine Em.gA (k := 43) hG (by decide) (by decide) (tb7 (i := 13) rfl) rfl rfl dX11_frees_105 ?_
        refine Ev.iload_n (i := 1) dX11_frees_108 rfl rfl ?_
        refine Ev.aload_n (i := 0) dX11_frees_109 rfl rfl ?_
        refine Em.gA (k := 19) hG (by decide) (by decide) (tb6 (i := 229) rfl) rfl rfl dX11_frees_110 ?_
        refine Ev.iload_n (i := 1) dX11_frees_113 rfl rfl ?_
        have q18 : -1 ≤ v 19 w ∧ v 19 w ≤ 3 := hI.2 19 w
        refine Ex.iald (k := 19) (v 19 w) rfl hG (by decide) (by decide) rfl (by omega) (by show _ < ((8 : Nat) : Int); omega) (by decide) dX11_frees_114 ?_
        refine Em.iast (k := 43) hG (by decide) (by decide) rfl (by omega) (by show _ < ((8 : Nat) : Int); omega) (by decide) dX11_frees_115 ?_
        exact Ev.vretE rfl dX11_frees_116 rfl (by first | rfl | (rw [f_frees, if_pos c3, if_neg c5, if_pos c16]; try rfl))
      · refine Ev.aload_n (i := 0) dX11_frees_53 rfl rfl ?_
        refine Em.gA (k := 15) hG (by decide) (by decide) (tb6 (i := 225) rfl) rfl rfl dX11_frees_54 ?_
        refine Ev.iload_n (i := 1) dX11_frees_57 rfl rfl ?_
        refine Ex.iald (k := 15) (v 15 w) rfl hG (by decide) (by decide) rfl (by omega) (by show _ < ((8 : Nat) : Int); omega) (by decide) dX11_frees_58 ?_
        refine Ei.const dX11_frees_59 ?_
        refine Ex.icmp_ne (tgt := 77) dX11_frees_60 (by decide) ⟨by omega, by omega⟩ ⟨by omega, by omega⟩ (fun c19 => ?_) (fun c19 => ?_)
        · refine Ev.aload_n (i := 0) dX11_frees_63 rfl rfl ?_
          have q20 : 0 ≤ v 8 0 ∧ v 8 0 ≤ T := hI.2 8 0
          refine Ex.gS (k := 8) (v 8 0) rfl hG (by decide) (tb6 (i := 218) rfl) rfl rfl dX11_frees_64 ?_
          refine Ev.aload_n (i := 0) dX11_frees_67 rfl rfl ?_
          refine Em.gA (k := 17) hG (by decide) (by decide) (tb6 (i := 227) rfl) rfl rfl dX11_frees_68 ?_
          refine Ev.iload_n (i := 1) dX11_frees_71 rfl rfl ?_
          have q21 : 0 ≤ v 17 w ∧ v 17 w ≤ 2 := hI.2 17 w
          refine Ex.iald (k := 17) (v 17 w) rfl hG (by decide) (by decide) rfl (by omega) (by show _ < ((8 : Nat) : Int); omega) (by decide) dX11_frees_72 ?_
          refine Ei.add dX11_frees_73 ?_
          refine Ev.goto (tgt := 103) dX11_frees_74 (by decide) ?_
          refine Em.iast (k := 42) hG (by decide) (by decide) rfl (by omega) (by show _ < ((8 : Nat) : Int); omega) (by decide) dX11_frees_103 ?_
          refine Ev.aload_n (i := 0) dX11_frees_104 rfl rfl ?_
          refine Em.gA (k := 43) hG (by decide) (by decide) (tb7 (i := 13) rfl) rfl rfl dX11_frees_105 ?_
          refine Ev.iload_n (i := 1) dX11_frees_108 rfl rfl ?_
          refine Ev.aload_n (i := 0) dX11_frees_109 rfl rfl ?_
          refine Em.gA (k := 19) hG (by decide) (by decide) (tb6 (i := 229) rfl) rfl rfl dX11_frees_110 ?_
          refine Ev.iload_n (i := 1) dX11_frees_113 rfl rfl ?_
          have q22 : -1 ≤ v 19 w ∧ v 19 w ≤ 3 := hI.2 19 w
          refine Ex.iald (k := 19) (v 19 w) rfl hG (by decide) (by decide) rfl (by omega) (by show _ < ((8 : Nat) : Int); omega) (by decide) dX11_frees_114 ?_
          refine Em.iast (k := 43) hG (by decide) (by decide) rfl (by omega) (by show _ < ((8 : Nat) : Int); omega) (by decide) dX11_frees_115 ?_
          exact Ev.vretE rfl dX11_frees_116 rfl (by first | rfl | (rw [f_frees, if_pos c3, if_neg c5, if_neg c16, if_pos c19]; try rfl))
        · refine Ev.iload_n (i := 3) dX11_frees_77 rfl rfl ?_
          refine Ei.if_eq_t (tgt := 97) dX11_frees_78 (by decide) ⟨by omega, by omega⟩ (by omega) ?_
          refine Ev.aload_n (i := 0) dX11_frees_97 rfl rfl ?_
          have q23 : 0 ≤ v 8 0 ∧ v 8 0 ≤ T := hI.2 8 0
          refine Ex.gS (k := 8) (v 8 0) rfl hG (by decide) (tb6 (i := 218) rfl) rfl rfl dX11_frees_98 ?_
          refine Ei.const dX11_frees_101 ?_
          refine Ei.add dX11_frees_102 ?_
          refine Em.iast (k := 42) hG (by decide) (by decide) rfl (by omega) (by show _ < ((8 : Nat) : Int); omega) (by decide) dX11_frees_103 ?_
          refine Ev.aload_n (i := 0) dX11_frees_104 rfl rfl ?_
          refine Em.gA (k := 43) hG (by decide) (by decide) (tb7 (i := 13) rfl) rfl rfl dX11_frees_105 ?_
          refine Ev.iload_n (i := 1) dX11_frees_108 rfl rfl ?_
          refine Ev.aload_n (i := 0) dX11_frees_109 rfl rfl ?_
          refine Em.gA (k := 19) hG (by decide) (by decide) (tb6 (i := 229) rfl) rfl rfl dX11_frees_110 ?_
          refine Ev.iload_n (i := 1) dX11_frees_113 rfl rfl ?_
          have q24 : -1 ≤ v 19 w ∧ v 19 w ≤ 3 := hI.2 19 w
          refine Ex.iald (k := 19) (v 19 w) rfl hG (by decide) (by decide) rfl (by omega) (by show _ < ((8 : Nat) : Int); omega) (by decide) dX11_frees_114 ?_
          refine Em.iast (k := 43) hG (by decide) (by decide) rfl (by omega) (by show _ < ((8 : Nat) : Int); omega) (by decide) dX11_frees_115 ?_
          exact Ev.vretE rfl dX11_frees_116 rfl (by first | rfl | (rw [f_frees, if_pos c3, if_neg c5, if_neg c16, if_neg c19]; try rfl))
  · refine Ei.const dX11_frees_30 ?_
    refine Ev.istore_n (i := 3) dX11_frees_31 rfl (by decide) ?_
    refine Ev.aload_n (i := 0) dX11_frees_32 rfl rfl ?_
    refine Em.gA (k := 42) hG (by decide) (by decide) (tb7 (i := 12) rfl) rfl rfl dX11_frees_33 ?_
    refine Ev.iload_n (i := 1) dX11_frees_36 rfl rfl ?_
    refine Ev.aload_n (i := 0) dX11_frees_37 rfl rfl ?_
    refine Em.gA (k := 15) hG (by decide) (by decide) (tb6 (i := 225) rfl) rfl rfl dX11_frees_38 ?_
    refine Ev.iload_n (i := 1) dX11_frees_41 rfl rfl ?_
    refine Ex.iald (k := 15) (v 15 w) rfl hG (by decide) (by decide) rfl (by omega) (by show _ < ((8 : Nat) : Int); omega) (by decide) dX11_frees_42 ?_
    refine Ex.if_ne (tgt := 53) dX11_frees_43 (by decide) ⟨by omega, by omega⟩ (fun c25 => ?_) (fun c25 => ?_)
    · refine Ev.aload_n (i := 0) dX11_frees_46 rfl rfl ?_
      have q26 : 0 ≤ v 8 0 ∧ v 8 0 ≤ T := hI.2 8 0
      refine Ex.gS (k := 8) (v 8 0) rfl hG (by decide) (tb6 (i := 218) rfl) rfl rfl dX11_frees_47 ?_
      refine Ev.goto (tgt := 103) dX11_frees_50 (by decide) ?_
      refine Em.iast (k := 42) hG (by decide) (by decide) rfl (by omega) (by show _ < ((8 : Nat) : Int); omega) (by decide) dX11_frees_103 ?_
      refine Ev.aload_n (i := 0) dX11_frees_104 rfl rfl ?_
      refine Em.gA (k := 43) hG (by decide) (by decide) (tb7 (i := 13) rfl) rfl rfl dX11_frees_105 ?_
      refine Ev.iload_n (i := 1) dX11_frees_108 rfl rfl ?_
      refine Ev.aload_n (i := 0) dX11_frees_109 rfl rfl ?_
      refine Em.gA (k := 19) hG (by decide) (by decide) (tb6 (i := 229) rfl) rfl rfl dX11_frees_110 ?_
      refine Ev.iload_n (i := 1) dX11_frees_113 rfl rfl ?_
      have q27 : -1 ≤ v 19 w ∧ v 19 w ≤ 3 := hI.2 19 w
      refine Ex.iald (k := 19) (v 19 w) rfl hG (by decide) (by decide) rfl (by omega) (by show _ < ((8 : Nat) : Int); omega) (by decide) dX11_frees_114 ?_
      refine Em.iast (k := 43) hG (by decide) (by decide) rfl (by omega) (by show _ < ((8 : Nat) : Int); omega) (by decide) dX11_frees_115 ?_
      exact Ev.vretE rfl dX11_frees_116 rfl (by first | rfl | (rw [f_frees, if_neg c3, if_pos c25]; try rfl))
    · refine Ev.aload_n (i := 0) dX11_frees_53 rfl rfl ?_
      refine Em.gA (k := 15) hG (by decide) (by decide) (tb6 (i := 225) rfl) rfl rfl dX11_frees_54 ?_
      refine Ev.iload_n (i := 1) dX11_frees_57 rfl rfl ?_
      refine Ex.iald (k := 15) (v 15 w) rfl hG (by decide) (by decide) rfl (by omega) (by show _ < ((8 : Nat) : Int); omega) (by decide) dX11_frees_58 ?_
      refine Ei.const dX11_frees_59 ?_
      refine Ex.icmp_ne (tgt := 77) dX11_frees_60 (by decide) ⟨by omega, by omega⟩ ⟨by omega, by omega⟩ (fun c28 => ?_) (fun c28 => ?_)
      · refine Ev.aload_n (i := 0) dX11_frees_63 rfl rfl ?_
        have q29 : 0 ≤ v 8 0 ∧ v 8 0 ≤ T := hI.2 8 0
        refine Ex.gS (k := 8) (v 8 0) rfl hG (by decide) (tb6 (i := 218) rfl) rfl rfl dX11_frees_64 ?_
        refine Ev.aload_n (i := 0) dX11_frees_67 rfl rfl ?_
        refine Em.gA (k := 17) hG (by decide) (by decide) (tb6 (i := 227) rfl) rfl rfl dX11_frees_68 ?_
        refine Ev.iload_n (i := 1) dX11_frees_71 rfl rfl ?_
        have q30 : 0 ≤ v 17 w ∧ v 17 w ≤ 2 := hI.2 17 w
        refine Ex.iald (k := 17) (v 17 w) rfl hG (by decide) (by decide) rfl (by omega) (by show _ < ((8 : Nat) : Int); omega) (by decide) dX11_frees_72 ?_
        refine Ei.add dX11_frees_73 ?_
        refine Ev.goto (tgt := 103) dX11_frees_74 (by decide) ?_
        refine Em.iast (k := 42) hG (by decide) (by decide) rfl (by omega) (by show _ < ((8 : Nat) : Int); omega) (by decide) dX11_frees_103 ?_
        refine Ev.aload_n (i := 0) dX11_frees_104 rfl rfl ?_
        refine Em.gA (k := 43) hG (by decide) (by decide) (tb7 (i := 13) rfl) rfl rfl dX11_frees_105 ?_
        refine Ev.iload_n (i := 1) dX11_frees_108 rfl rfl ?_
        refine Ev.aload_n (i := 0) dX11_frees_109 rfl rfl ?_
        refine Em.gA (k := 19) hG (by decide) (by decide) (tb6 (i := 229) rfl) rfl rfl dX11_frees_110 ?_
        refine Ev.iload_n (i := 1) dX11_frees_113 rfl rfl ?_
        have q31 : -1 ≤ v 19 w ∧ v 19 w ≤ 3 := hI.2 19 w
        refine Ex.iald (k := 19) (v 19 w) rfl hG (by decide) (by decide) rfl (by omega) (by show _ < ((8 : Nat) : Int); omega) (by decide) dX11_frees_114 ?_
        refine Em.iast (k := 43) hG (by decide) (by decide) rfl (by omega) (by show _ < ((8 : Nat) : Int); omega) (by decide) dX11_frees_115 ?_
        exact Ev.vretE rfl dX11_frees_116 rfl (by first | rfl | (rw [f_frees, if_neg c3, if_neg c25, if_pos c28]; try rfl))
      · refine Ev.iload_n (i := 3) dX11_frees_77 rfl rfl ?_
        refine Ei.if_eq_t (tgt := 97) dX11_frees_78 (by decide) ⟨by omega, by omega⟩ (by omega) ?_
        refine Ev.aload_n (i := 0) dX11_frees_97 rfl rfl ?_
        have q32 : 0 ≤ v 8 0 ∧ v 8 0 ≤ T := hI.2 8 0
        refine Ex.gS (k := 8) (v 8 0) rfl hG (by decide) (tb6 (i := 218) rfl) rfl rfl dX11_frees_98 ?_
        refine Ei.const dX11_frees_101 ?_
        refine Ei.add dX11_frees_102 ?_
        refine Em.iast (k := 42) hG (by decide) (by decide) rfl (by omega) (by show _ < ((8 : Nat) : Int); omega) (by decide) dX11_frees_103 ?_
        refine Ev.aload_n (i := 0) dX11_frees_104 rfl rfl ?_
        refine Em.gA (k := 43) hG (by decide) (by decide) (tb7 (i := 13) rfl) rfl rfl dX11_frees_105 ?_
        refine Ev.iload_n (i := 1) dX11_frees_108 rfl rfl ?_
        refine Ev.aload_n (i := 0) dX11_frees_109 rfl rfl ?_
        refine Em.gA (k := 19) hG (by decide) (by decide) (tb6 (i := 229) rfl) rfl rfl dX11_frees_110 ?_
        refine Ev.iload_n (i := 1) dX11_frees_113 rfl rfl ?_
        have q33 : -1 ≤ v 19 w ∧ v 19 w ≤ 3 := hI.2 19 w
        refine Ex.iald (k := 19) (v 19 w) rfl hG (by decide) (by decide) rfl (by omega) (by show _ < ((8 : Nat) : Int); omega) (by decide) dX11_frees_114 ?_
        refine Em.iast (k := 43) hG (by decide) (by decide) rfl (by omega) (by show _ < ((8 : Nat) : Int); omega) (by decide) dX11_frees_115 ?_
        exact Ev.vretE rfl dX11_frees_116 rfl (by first | rfl | (rw [f_frees, if_neg c3, if_neg c25, if_neg c28]; try rfl))
theorem i_frees {v : Vw} {T E : Int} {w : Int} (hI : IM v T E) (hw : 0 ≤ w ∧ w ≤ 7) : IM (f_frees w v) T (E) := by
  have hT := hI.1
  have q1 : 0 ≤ v 16 w ∧ v 16 w ≤ 29 := hI.2 16 w
  have q2 : 0 ≤ v 15 w ∧ v 15 w ≤ 3 := hI.2 15 w
  by_cases c3 : (v 15 w) = 1
  · have q4 : 0 ≤ v 28 (v 16 w) ∧ v 28 (v 16 w) ≤ 4 := hI.2 28 (v 16 w)
    by_cases c5 : (v 28 (v 16 w)) = 0
    · by_cases c6 : (v 15 w) = 0
      · have q7 : 0 ≤ v 8 0 ∧ v 8 0 ≤ T := hI.2 8 0
        have q8 : -1 ≤ v 19 w ∧ v 19 w ≤ 3 := hI.2 19 w
        rw [f_frees, if_pos c3, if_pos c5, if_pos c6]
        exact ((hI.up 42 w (v 8 0) (by show 0 ≤ (v 8 0) ∧ (v 8 0) ≤ T + 300; omega)).up 43 w (v 19 w) (by show -1 ≤ (v 19 w) ∧ (v 19 w) ≤ 3; omega))
      · by_cases c9 : (v 15 w) = 3
        · have q10 : 0 ≤ v 8 0 ∧ v 8 0 ≤ T := hI.2 8 0
          have q11 : 0 ≤ v 17 w ∧ v 17 w ≤ 2 := hI.2 17 w
          have q12 : -1 ≤ v 19 w ∧ v 19 w ≤ 3 := hI.2 19 w
          rw [f_frees, if_pos c3, if_pos c5, if_neg c6, if_pos c9]
          exact ((hI.up 42 w ((v 8 0) + (v 17 w)) (by show 0 ≤ ((v 8 0) + (v 17 w)) ∧ ((v 8 0) + (v 17 w)) ≤ T + 300; omega)).up 43 w (v 19 w) (by show -1 ≤ (v 19 w) ∧ (v 19 w) ≤ 3; omega))
        · have q13 : 0 ≤ v 8 0 ∧ v 8 0 ≤ T := hI.2 8 0
          have q14 : 0 ≤ v 30 (v 16 w) ∧ v 30 (v 16 w) ≤ 15 := hI.2 30 (v 16 w)
          have q15 : -1 ≤ v 19 w ∧ v 19 w ≤ 3 := hI.2 19 w
          rw [f_frees, if_pos c3, if_pos c5, if_neg c6, if_neg c9]
          exact ((hI.up 42 w (((v 8 0) + (v 30 (v 16 w))) + 2) (by show 0 ≤ (((v 8 0) + (v 30 (v 16 w))) + 2) ∧ (((v 8 0) + (v 30 (v 16 w))) + 2) ≤ T + 300; omega)).up 43 w (v 19 w) (by show -1 ≤ (v 19 w) ∧ (v 19 w) ≤ 3; omega))
    · by_cases c16 : (v 15 w) = 0
      · have q17 : 0 ≤ v 8 0 ∧ v 8 0 ≤ T := hI.2 8 0
        have q18 : -1 ≤ v 19 w ∧ v 19 w ≤ 3 := hI.2 19 w
        rw [f_frees, if_pos c3, if_neg c5, if_pos c16]
        exact ((hI.up 42 w (v 8 0) (by show 0 ≤ (v 8 0) ∧ (v 8 0) ≤ T + 300; omega)).up 43 w (v 19 w) (by show -1 ≤ (v 19 w) ∧ (v 19 w) ≤ 3; omega))
      · by_cases c19 : (v 15 w) = 3
        · have q20 : 0 ≤ v 8 0 ∧ v 8 0 ≤ T := hI.2 8 0
          have q21 : 0 ≤ v 17 w ∧ v 17 w ≤ 2 := hI.2 17 w
          have q22 : -1 ≤ v 19 w ∧ v 19 w ≤ 3 := hI.2 19 w
          rw [f_frees, if_pos c3, if_neg c5, if_neg c16, if_pos c19]
          exact ((hI.up 42 w ((v 8 0) + (v 17 w)) (by show 0 ≤ ((v 8 0) + (v 17 w)) ∧ ((v 8 0) + (v 17 w)) ≤ T + 300; omega)).up 43 w (v 19 w) (by show -1 ≤ (v 19 w) ∧ (v 19 w) ≤ 3; omega))
        · have q23 : 0 ≤ v 8 0 ∧ v 8 0 ≤ T := hI.2 8 0
          have q24 : -1 ≤ v 19 w ∧ v 19 w ≤ 3 := hI.2 19 w
          rw [f_frees, if_pos c3, if_neg c5, if_neg c16, if_neg c19]
          exact ((hI.up 42 w ((v 8 0) + 2) (by show 0 ≤ ((v 8 0) + 2) ∧ ((v 8 0) + 2) ≤ T + 300; omega)).up 43 w (v 19 w) (by show -1 ≤ (v 19 w) ∧ (v 19 w) ≤ 3; omega))
  · by_cases c25 : (v 15 w) = 0
    · have q26 : 0 ≤ v 8 0 ∧ v 8 0 ≤ T := hI.2 8 0
      have q27 : -1 ≤ v 19 w ∧ v 19 w ≤ 3 := hI.2 19 w
      rw [f_frees, if_neg c3, if_pos c25]
      exact ((hI.up 42 w (v 8 0) (by show 0 ≤ (v 8 0) ∧ (v 8 0) ≤ T + 300; omega)).up 43 w (v 19 w) (by show -1 ≤ (v 19 w) ∧ (v 19 w) ≤ 3; omega))
    · by_cases c28 : (v 15 w) = 3
      · have q29 : 0 ≤ v 8 0 ∧ v 8 0 ≤ T := hI.2 8 0
        have q30 : 0 ≤ v 17 w ∧ v 17 w ≤ 2 := hI.2 17 w
        have q31 : -1 ≤ v 19 w ∧ v 19 w ≤ 3 := hI.2 19 w
        rw [f_frees, if_neg c3, if_neg c25, if_pos c28]
        exact ((hI.up 42 w ((v 8 0) + (v 17 w)) (by show 0 ≤ ((v 8 0) + (v 17 w)) ∧ ((v 8 0) + (v 17 w)) ≤ T + 300; omega)).up 43 w (v 19 w) (by show -1 ≤ (v 19 w) ∧ (v 19 w) ≤ 3; omega))
      · have q32 : 0 ≤ v 8 0 ∧ v 8 0 ≤ T := hI.2 8 0
        have q33 : -1 ≤ v 19 w ∧ v 19 w ≤ 3 := hI.2 19 w
        rw [f_frees, if_neg c3, if_neg c25, if_neg c28]
        exact ((hI.up 42 w ((v 8 0) + 2) (by show 0 ≤ ((v 8 0) + 2) ∧ ((v 8 0) + 2) ≤ T + 300; omega)).up 43 w (v 19 w) (by show -1 ≤ (v 19 w) ∧ (v 19 w) ≤ 3; omega))
theorem fr_frees {w : Int} {v : Vw} (fk : Nat) (fi : Int) (hk : fk ≠ 42 ∧ fk ≠ 43) : (f_frees w v) fk fi = v fk fi := by
  by_cases c3 : (v 15 w) = 1
  · by_cases c5 : (v 28 (v 16 w)) = 0
    · by_cases c6 : (v 15 w) = 0
      · rw [f_frees, if_pos c3, if_pos c5, if_pos c6]
        exact ((upv_nk (by omega)).trans ((upv_nk (by omega)).trans rfl))
      · by_cases c9 : (v 15 w) = 3
        · rw [f_frees, if_pos c3, if_pos c5, if_neg c6, if_pos c9]
          exact ((upv_nk (by omega)).trans ((upv_nk (by omega)).trans rfl))
        · rw [f_frees, if_pos c3, if_pos c5, if_neg c6, if_neg c9]
          exact ((upv_nk (by omega)).trans ((upv_nk (by omega)).trans rfl))
    · by_cases c16 : (v 15 w) = 0
      · rw [f_frees, if_pos c3, if_neg c5, if_pos c16]
        exact ((upv_nk (by omega)).trans ((upv_nk (by omega)).trans rfl))
      · by_cases c19 : (v 15 w) = 3
        · rw [f_frees, if_pos c3, if_neg c5, if_neg c16, if_pos c19]
          exact ((upv_nk (by omega)).trans ((upv_nk (by omega)).trans rfl))
        · rw [f_frees, if_pos c3, if_neg c5, if_neg c16, if_neg c19]
          exact ((upv_nk (by omega)).trans ((upv_nk (by omega)).trans rfl))
  · by_cases c25 : (v 15 w) = 0
    · rw [f_frees, if_neg c3, if_pos c25]
      exact ((upv_nk (by omega)).trans ((upv_nk (by omega)).trans rfl))
    · by_cases c28 : (v 15 w) = 3
      · rw [f_frees, if_neg c3, if_neg c25, if_pos c28]
        exact ((upv_nk (by omega)).trans ((upv_nk (by omega)).trans rfl))
      · rw [f_frees, if_neg c3, if_neg c25, if_neg c28]
        exact ((upv_nk (by omega)).trans ((upv_nk (by omega)).trans rfl))
theorem up_frees (w : Int) {v : Vw} {T E : Int} (hI : IM v T E) : f_frees w v 42 w ≤ T + 19 := by
  have h1 : 0 ≤ v 8 0 ∧ v 8 0 ≤ T := hI.2 8 0
  have h2 : 0 ≤ v 17 w ∧ v 17 w ≤ 2 := hI.2 17 w
  have h3 : 0 ≤ v 30 (v 16 w) ∧ v 30 (v 16 w) ≤ 15 := hI.2 30 (v 16 w)
  unfold f_frees
  repeat' split
  all_goals (simp [upv]; omega)
theorem ne_frees (w w' : Int) (hne : w' ≠ w) {v : Vw} : f_frees w v 42 w' = v 42 w' := by
  unfold f_frees
  repeat' split
  all_goals (simp [upv]; omega)
/-- there is a fermenter at w or behind -/
def HasG (v : Vw) (w : Int) : Prop := ∃ w0, w ≤ w0 ∧ w0 < v 2 0 ∧ v 20 w0 = 0
def HasF (v : Vw) : Prop := HasG v 0
theorem HasF_fr {v w : Vw} (h2 : w 2 0 = v 2 0) (h20 : ∀ i, w 20 i = v 20 i) (h : HasF v) : HasF w := by
  obtain ⟨a, h1, h3, h4⟩ := h
  exact ⟨a, h1, by rw [h2]; exact h3, by rw [h20]; exact h4⟩
def l_forecastOf_4 : Nat → Int → Vw → Vw
  | 0, w, v => v
  | n + 1, w, v =>
    if (v 2 0) ≤ w then
      v
    else
      (l_forecastOf_4 n (w + 1) (f_frees w v))
theorem s_l_forecastOf_4 {X : Cx} {σ : Hp} {m0 : Nat} {T E : Int} {z : Int} {kr : Nat} {oc : Rs} {τ : Hp} (hG : GM σ m0) : ∀ (n : Nat) (w : Int) (v : Vw) (hI : IM v T E) (hw : 0 ≤ w ∧ w ≤ 100) (hm : (v 2 0 - w).toNat < n), Ev X m_X11_forecastOf 2 23 [some (va_rf (some m0)), some (va_rf (some (m0 + (kr - 11)))), some (.int (i32 z)), none, none, none, none] [] (Hm σ m0 (l_forecastOf_4 n w v)) oc τ → Ev X m_X11_forecastOf 2 4 [some (va_rf (some m0)), some (va_rf (some (m0 + (kr - 11)))), some (.int (i32 z)), some (.int (i32 w)), none, none, none] [] (Hm σ m0 v) oc τ := by
  intro n
  induction n with
  | zero =>
    intro w v hI hw hm K
    exact absurd hm (Nat.not_lt_zero _)
  | succ n ih =>
    intro w v hI hw hm K
    have hT := hI.1
    have u2 : 0 ≤ v 2 0 ∧ v 2 0 ≤ 8 := hI.2 2 0
    refine Ev.iload_n (i := 3) dX11_forecastOf_4 rfl rfl ?_
    refine Ev.aload_n (i := 0) dX11_forecastOf_5 rfl rfl ?_
    refine Ex.gS (k := 2) (v 2 0) rfl hG (by decide) (tb6 (i := 212) rfl) rfl rfl dX11_forecastOf_6 ?_
    refine Ei.icmp_ge (tgt := 23) dX11_forecastOf_9 (by decide) ⟨by omega, by omega⟩ ⟨by omega, by omega⟩ (fun c1 => ?_) (fun c1 => ?_)
    · rw [l_forecastOf_4, if_pos c1] at K
      exact Ev.fgt (ls' := [some (va_rf (some m0)), some (va_rf (some (m0 + (kr - 11)))), some (.int (i32 z)), none, none, none, none]) ⟨rfl, ⟨rfl, ⟨rfl, trivial⟩⟩⟩ K
    · refine Ev.aload_n (i := 0) dX11_forecastOf_12 rfl rfl ?_
      refine Ev.iload_n (i := 3) dX11_forecastOf_13 rfl rfl ?_
      refine Em.cv0 (As := [_]) hG k_X11_frees (tb7 (i := 209) rfl) ki_X11_frees kv_X11_frees dX11_forecastOf_14 rfl rfl (Nat.le_of_ble_eq_true rfl) (by decide) (s_X11_frees (w := w) hG hI (by show 0 ≤ w ∧ w ≤ 7; omega)) ?_
      have hJ2 := (i_frees (w := w) hI (by show 0 ≤ w ∧ w ≤ 7; omega))
      refine Ei.inc dX11_forecastOf_17 rfl (by decide) ?_
      refine Ev.goto (tgt := 4) dX11_forecastOf_20 (by decide) ?_
      have q3 : (f_frees w v) 2 0 = v 2 0 := (fr_frees (w := w) (v := v) 2 0 (by decide)).trans rfl
      rw [l_forecastOf_4, if_neg c1] at K
      exact Ev.fgt (ls' := [some (va_rf (some m0)), some (va_rf (some (m0 + (kr - 11)))), some (.int (i32 z)), some (.int (i32 (w + 1))), none, none, none]) ⟨rfl, ⟨rfl, ⟨rfl, ⟨rfl, trivial⟩⟩⟩⟩ (ih (w + 1) (f_frees w v) hJ2 (by show 0 ≤ (w + 1) ∧ (w + 1) ≤ 100; omega) (by show (((f_frees w v) 2 0) - (w + 1)).toNat < n; omega) K)
theorem fr_l_forecastOf_4 : ∀ (n : Nat) (w : Int) (v : Vw) (fk : Nat) (fi : Int) (hk : fk ≠ 42 ∧ fk ≠ 43), (l_forecastOf_4 n w v) fk fi = v fk fi := by
  intro n w v fk fi hk
  induction n generalizing w v with
  | zero => rfl
  | succ n ih =>
    by_cases c1 : (v 2 0) ≤ w
    · rw [l_forecastOf_4, if_pos c1]
      try rfl
    · rw [l_forecastOf_4, if_neg c1]
      exact (ih (w + 1) (f_frees w v)).trans ((fr_frees (w := w) (v := v) fk fi (by omega)).trans rfl)
theorem i_l_forecastOf_4 {T E : Int} : ∀ (n : Nat) (w : Int) (v : Vw) (hI : IM v T E) (hw : 0 ≤ w ∧ w ≤ 100), IM (l_forecastOf_4 n w v) T (E) := by
  intro n
  induction n with
  | zero =>
    intro w v hI hw
    have hT := hI.1
    exact hI
  | succ n ih =>
    intro w v hI hw
    have hT := hI.1
    have u2 : 0 ≤ v 2 0 ∧ v 2 0 ≤ 8 := hI.2 2 0
    by_cases c1 : (v 2 0) ≤ w
    · rw [l_forecastOf_4, if_pos c1]
      exact hI
    · have hJ2 := (i_frees (w := w) hI (by show 0 ≤ w ∧ w ≤ 7; omega))
      have q3 : (f_frees w v) 2 0 = v 2 0 := (fr_frees (w := w) (v := v) 2 0 (by decide)).trans rfl
      rw [l_forecastOf_4, if_neg c1]
      exact ih (w + 1) (f_frees w v) hJ2 (by show 0 ≤ (w + 1) ∧ (w + 1) ≤ 100; omega)
theorem up_l_forecastOf_4 {T E : Int} : ∀ (n : Nat) (w : Int) (v : Vw), IM v T E → (0 ≤ w ∧ w ≤ 100) → (v 2 0 - w).toNat < n → ∀ w', w ≤ w' → w' < v 2 0 → l_forecastOf_4 n w v 42 w' ≤ T + 19 := by
  intro n
  induction n with
  | zero => exact fun _ _ _ _ h => absurd h (Nat.not_lt_zero _)
  | succ n ih =>
    intro w v hI hw hm w' h1 h2
    have u2 : 0 ≤ v 2 0 ∧ v 2 0 ≤ 8 := hI.2 2 0
    rw [l_forecastOf_4, if_neg (by omega)]
    have hJ := i_frees (w := w) hI (by omega)
    have e2 : f_frees w v 2 0 = v 2 0 := fr_frees 2 0 (by decide)
    by_cases e : w' = w
    · subst e
      have : ∀ (n : Nat) (w : Int) (v : Vw), w' < w → l_forecastOf_4 n w v 42 w' = v 42 w' := by
        intro n
        induction n with
        | zero => exact fun _ _ _ => rfl
        | succ n ih =>
          intro w v hl
          rw [l_forecastOf_4]
          split
          · rfl
          · rw [ih (w + 1) _ (by omega), ne_frees w w' (by omega)]
      rw [this n (w' + 1) _ (by omega)]
      exact up_frees w' hI
    · exact ih (w + 1) _ hJ (by omega) (by omega) w' (by omega) (by omega)
def l_forecastOf_39 (v : Vw) : Nat → Int → Int → Int
  | 0, first, w => first
  | n + 1, first, w =>
    if (v 2 0) ≤ w then
      first
    else
      if (v 20 w) = 0 then
        if first = (-1) then
          (l_forecastOf_39 v n w (w + 1))
        else
          if (v 42 first) ≤ (v 42 w) then
            (l_forecastOf_39 v n first (w + 1))
          else
            (l_forecastOf_39 v n w (w + 1))
      else
        (l_forecastOf_39 v n first (w + 1))
theorem s_l_forecastOf_39 {X : Cx} {σ : Hp} {m0 : Nat} {T E : Int} {last : Int} {k : Int} {kr : Nat} {oc : Rs} {τ : Hp} (hG : GM σ m0) {v : Vw} (hI : IM v T E) : ∀ (n : Nat) (first w : Int) (hw : 0 ≤ w ∧ w ≤ 100) (hf1 : -1 ≤ first ∧ first ≤ 7) (hm : (v 2 0 - w).toNat < n), Ev X m_X11_forecastOf 2 91 [some (va_rf (some m0)), some (va_rf (some (m0 + (kr - 11)))), some (.int (i32 last)), some (.int (i32 k)), some (.int (i32 (l_forecastOf_39 v n first w))), none, none] [] (Hm σ m0 v) oc τ → Ev X m_X11_forecastOf 2 39 [some (va_rf (some m0)), some (va_rf (some (m0 + (kr - 11)))), some (.int (i32 last)), some (.int (i32 k)), some (.int (i32 first)), some (.int (i32 w)), none] [] (Hm σ m0 v) oc τ := by
  intro n
  induction n with
  | zero =>
    intro first w hw hf1 hm K
    exact absurd hm (Nat.not_lt_zero _)
  | succ n ih =>
    intro first w hw hf1 hm K
    have hT := hI.1
    have u2 : 0 ≤ v 2 0 ∧ v 2 0 ≤ 8 := hI.2 2 0
    refine Ev.iload dX11_forecastOf_39 rfl ?_
    refine Ev.aload_n (i := 0) dX11_forecastOf_41 rfl rfl ?_
    refine Ex.gS (k := 2) (v 2 0) rfl hG (by decide) (tb6 (i := 212) rfl) rfl rfl dX11_forecastOf_42 ?_
    refine Ei.icmp_ge (tgt := 91) dX11_forecastOf_45 (by decide) ⟨by omega, by omega⟩ ⟨by omega, by omega⟩ (fun c4 => ?_) (fun c4 => ?_)
    · rw [l_forecastOf_39, if_pos c4] at K
      exact Ev.fgt (ls' := [some (va_rf (some m0)), some (va_rf (some (m0 + (kr - 11)))), some (.int (i32 last)), some (.int (i32 k)), some (.int (i32 first)), none, none]) ⟨rfl, ⟨rfl, ⟨rfl, ⟨rfl, ⟨rfl, trivial⟩⟩⟩⟩⟩ K
    · refine Ev.aload_n (i := 0) dX11_forecastOf_48 rfl rfl ?_
      refine Em.gA (k := 20) hG (by decide) (by decide) (tb6 (i := 230) rfl) rfl rfl dX11_forecastOf_49 ?_
      refine Ev.iload dX11_forecastOf_52 rfl ?_
      have q5 : 0 ≤ v 20 w ∧ v 20 w ≤ 1 := hI.2 20 w
      refine Ex.zald (k := 20) (v 20 w) rfl hG (by decide) (by decide) rfl (by omega) (by show _ < ((8 : Nat) : Int); omega) (by decide) dX11_forecastOf_54 ?_
      refine Ex.if_ne (tgt := 85) dX11_forecastOf_55 (by decide) ⟨by omega, by omega⟩ (fun c6 => ?_) (fun c6 => ?_)
      · refine Ev.iload dX11_forecastOf_58 rfl ?_
        refine Ei.const dX11_forecastOf_60 ?_
        refine Ei.icmp_eq (tgt := 81) dX11_forecastOf_61 (by decide) ⟨by omega, by omega⟩ ⟨by omega, by omega⟩ (fun c7 => ?_) (fun c7 => ?_)
        · refine Ev.iload dX11_forecastOf_81 rfl ?_
          refine Ev.istore dX11_forecastOf_83 (by decide) ?_
          refine Ei.inc dX11_forecastOf_85 rfl (by decide) ?_
          refine Ev.goto (tgt := 39) dX11_forecastOf_88 (by decide) ?_
          rw [l_forecastOf_39, if_neg c4, if_pos c6, if_pos c7] at K
          exact Ev.fgt (ls' := [some (va_rf (some m0)), some (va_rf (some (m0 + (kr - 11)))), some (.int (i32 last)), some (.int (i32 k)), some (.int (i32 w)), some (.int (i32 (w + 1))), none]) ⟨rfl, ⟨rfl, ⟨rfl, ⟨rfl, ⟨rfl, ⟨rfl, trivial⟩⟩⟩⟩⟩⟩ (ih w (w + 1)  (by show 0 ≤ (w + 1) ∧ (w + 1) ≤ 100; omega) (by show -1 ≤ w ∧ w ≤ 7; omega) (by show ((v 2 0) - (w + 1)).toNat < n; omega) K)
        · refine Ev.aload_n (i := 0) dX11_forecastOf_64 rfl rfl ?_
          refine Em.gA (k := 42) hG (by decide) (by decide) (tb7 (i := 12) rfl) rfl rfl dX11_forecastOf_65 ?_
          refine Ev.iload dX11_forecastOf_68 rfl ?_
          have q8 : 0 ≤ v 42 w ∧ v 42 w ≤ T + 300 := hI.2 42 w
          refine Ex.iald (k := 42) (v 42 w) rfl hG (by decide) (by decide) rfl (by omega) (by show _ < ((8 : Nat) : Int); omega) (by decide) dX11_forecastOf_70 ?_
          refine Ev.aload_n (i := 0) dX11_forecastOf_71 rfl rfl ?_
          refine Em.gA (k := 42) hG (by decide) (by decide) (tb7 (i := 12) rfl) rfl rfl dX11_forecastOf_72 ?_
          refine Ev.iload dX11_forecastOf_75 rfl ?_
          have q9 : 0 ≤ v 42 first ∧ v 42 first ≤ T + 300 := hI.2 42 first
          refine Ex.iald (k := 42) (v 42 first) rfl hG (by decide) (by decide) rfl (by omega) (by show _ < ((8 : Nat) : Int); omega) (by decide) dX11_forecastOf_77 ?_
          refine Ei.icmp_ge (tgt := 85) dX11_forecastOf_78 (by decide) ⟨by omega, by omega⟩ ⟨by omega, by omega⟩ (fun c10 => ?_) (fun c10 => ?_)
          · refine Ei.inc dX11_forecastOf_85 rfl (by decide) ?_
            refine Ev.goto (tgt := 39) dX11_forecastOf_88 (by decide) ?_
            rw [l_forecastOf_39, if_neg c4, if_pos c6, if_neg c7, if_pos c10] at K
            exact Ev.fgt (ls' := [some (va_rf (some m0)), some (va_rf (some (m0 + (kr - 11)))), some (.int (i32 last)), some (.int (i32 k)), some (.int (i32 first)), some (.int (i32 (w + 1))), none]) ⟨rfl, ⟨rfl, ⟨rfl, ⟨rfl, ⟨rfl, ⟨rfl, trivial⟩⟩⟩⟩⟩⟩ (ih first (w + 1)  (by show 0 ≤ (w + 1) ∧ (w + 1) ≤ 100; omega) (by show -1 ≤ first ∧ first ≤ 7; omega) (by show ((v 2 0) - (w + 1)).toNat < n; omega) K)
          · refine Ev.iload dX11_forecastOf_81 rfl ?_
            refine Ev.istore dX11_forecastOf_83 (by decide) ?_
            refine Ei.inc dX11_forecastOf_85 rfl (by decide) ?_
            refine Ev.goto (tgt := 39) dX11_forecastOf_88 (by decide) ?_
            rw [l_forecastOf_39, if_neg c4, if_pos c6, if_neg c7, if_neg c10] at K
            exact Ev.fgt (ls' := [some (va_rf (some m0)), some (va_rf (some (m0 + (kr - 11)))), some (.int (i32 last)), some (.int (i32 k)), some (.int (i32 w)), some (.int (i32 (w + 1))), none]) ⟨rfl, ⟨rfl, ⟨rfl, ⟨rfl, ⟨rfl, ⟨rfl, trivial⟩⟩⟩⟩⟩⟩ (ih w (w + 1)  (by show 0 ≤ (w + 1) ∧ (w + 1) ≤ 100; omega) (by show -1 ≤ w ∧ w ≤ 7; omega) (by show ((v 2 0) - (w + 1)).toNat < n; omega) K)
      · refine Ei.inc dX11_forecastOf_85 rfl (by decide) ?_
        refine Ev.goto (tgt := 39) dX11_forecastOf_88 (by decide) ?_
        rw [l_forecastOf_39, if_neg c4, if_neg c6] at K
        exact Ev.fgt (ls' := [some (va_rf (some m0)), some (va_rf (some (m0 + (kr - 11)))), some (.int (i32 last)), some (.int (i32 k)), some (.int (i32 first)), some (.int (i32 (w + 1))), none]) ⟨rfl, ⟨rfl, ⟨rfl, ⟨rfl, ⟨rfl, ⟨rfl, trivial⟩⟩⟩⟩⟩⟩ (ih first (w + 1)  (by show 0 ≤ (w + 1) ∧ (w + 1) ≤ 100; omega) (by show -1 ≤ first ∧ first ≤ 7; omega) (by show ((v 2 0) - (w + 1)).toNat < n; omega) K)
theorem r_l_forecastOf_39 {v : Vw} : ∀ (n : Nat) (first w : Int), -1 ≤ first → 0 ≤ w → (v 2 0 - w).toNat < n → (0 ≤ first → first < v 2 0) → (0 ≤ first ∨ HasG v w) → 0 ≤ l_forecastOf_39 v n first w ∧ l_forecastOf_39 v n first w < v 2 0 := by
  intro n
  induction n with
  | zero => exact fun _ _ _ _ h => absurd h (Nat.not_lt_zero _)
  | succ n ih =>
    intro first w h0 hw hm h1 h2
    rw [l_forecastOf_39]
    have key : ∀ f', -1 ≤ f' → (0 ≤ f' → f' < v 2 0) → ¬ v 2 0 ≤ w → (0 ≤ f' ∨ ¬ v 20 w = 0) → (0 ≤ first → 0 ≤ f') → 0 ≤ l_forecastOf_39 v n f' (w + 1) ∧ l_forecastOf_39 v n f' (w + 1) < v 2 0 := by
      intro f' g0 g1 g2 g3 g4
      refine ih f' (w + 1) g0 (by omega) (by omega) g1 ?_
      rcases h2 with h2 | ⟨w0, a1, a2, a3⟩
      · exact Or.inl (g4 h2)
      · by_cases e : w0 = w
        · subst e
          rcases g3 with g3 | g3
          · exact Or.inl g3
          · exact absurd a3 g3
        · exact Or.inr ⟨w0, by omega, a2, a3⟩
    split
    · rename_i hc
      rcases h2 with h2 | ⟨w0, a1, a2, a3⟩
      · exact ⟨h2, h1 h2⟩
      · omega
    · rename_i hc
      repeat' split
      all_goals first | exact key _ (by omega) (by omega) hc (by omega) (by omega) | exact key _ h0 h1 hc (by omega) (by omega)
def l_forecastOf_25 (kr : Nat) : Nat → Int → Int → Vw → Int × Vw
  | 0, last, k, v => (0, v)
  | n + 1, last, k, v =>
    if (v 7 0) ≤ k then
      (last, v)
    else
      if (v 43 (l_forecastOf_39 v (((v 2 0) - 0).toNat + 1) (-1) 0)) = (-1) then
        if (((v 42 (l_forecastOf_39 v (((v 2 0) - 0).toNat + 1) (-1) 0)) + (v 13 (v kr k))) + 0) ≤ last then
          (l_forecastOf_25 kr n last (k + 1) (upv (upv v 42 (l_forecastOf_39 v (((v 2 0) - 0).toNat + 1) (-1) 0) ((((v 42 (l_forecastOf_39 v (((v 2 0) - 0).toNat + 1) (-1) 0)) + (v 13 (v kr k))) + 0) + 2)) 43 (l_forecastOf_39 v (((v 2 0) - 0).toNat + 1) (-1) 0) (v 12 (v kr k))))
        else
          (l_forecastOf_25 kr n (((v 42 (l_forecastOf_39 v (((v 2 0) - 0).toNat + 1) (-1) 0)) + (v 13 (v kr k))) + 0) (k + 1) (upv (upv v 42 (l_forecastOf_39 v (((v 2 0) - 0).toNat + 1) (-1) 0) ((((v 42 (l_forecastOf_39 v (((v 2 0) - 0).toNat + 1) (-1) 0)) + (v 13 (v kr k))) + 0) + 2)) 43 (l_forecastOf_39 v (((v 2 0) - 0).toNat + 1) (-1) 0) (v 12 (v kr k))))
      else
        if (v 43 (l_forecastOf_39 v (((v 2 0) - 0).toNat + 1) (-1) 0)) = (v 12 (v kr k)) then
          if (((v 42 (l_forecastOf_39 v (((v 2 0) - 0).toNat + 1) (-1) 0)) + (v 13 (v kr k))) + 0) ≤ last then
            (l_forecastOf_25 kr n last (k + 1) (upv (upv v 42 (l_forecastOf_39 v (((v 2 0) - 0).toNat + 1) (-1) 0) ((((v 42 (l_forecastOf_39 v (((v 2 0) - 0).toNat + 1) (-1) 0)) + (v 13 (v kr k))) + 0) + 2)) 43 (l_forecastOf_39 v (((v 2 0) - 0).toNat + 1) (-1) 0) (v 12 (v kr k))))
          else
            (l_forecastOf_25 kr n (((v 42 (l_forecastOf_39 v (((v 2 0) - 0).toNat + 1) (-1) 0)) + (v 13 (v kr k))) + 0) (k + 1) (upv (upv v 42 (l_forecastOf_39 v (((v 2 0) - 0).toNat + 1) (-1) 0) ((((v 42 (l_forecastOf_39 v (((v 2 0) - 0).toNat + 1) (-1) 0)) + (v 13 (v kr k))) + 0) + 2)) 43 (l_forecastOf_39 v (((v 2 0) - 0).toNat + 1) (-1) 0) (v 12 (v kr k))))
        else
          if (((v 42 (l_forecastOf_39 v (((v 2 0) - 0).toNat + 1) (-1) 0)) + (v 13 (v kr k))) + 1) ≤ last then
            (l_forecastOf_25 kr n last (k + 1) (upv (upv v 42 (l_forecastOf_39 v (((v 2 0) - 0).toNat + 1) (-1) 0) ((((v 42 (l_forecastOf_39 v (((v 2 0) - 0).toNat + 1) (-1) 0)) + (v 13 (v kr k))) + 1) + 2)) 43 (l_forecastOf_39 v (((v 2 0) - 0).toNat + 1) (-1) 0) (v 12 (v kr k))))
          else
            (l_forecastOf_25 kr n (((v 42 (l_forecastOf_39 v (((v 2 0) - 0).toNat + 1) (-1) 0)) + (v 13 (v kr k))) + 1) (k + 1) (upv (upv v 42 (l_forecastOf_39 v (((v 2 0) - 0).toNat + 1) (-1) 0) ((((v 42 (l_forecastOf_39 v (((v 2 0) - 0).toNat + 1) (-1) 0)) + (v 13 (v kr k))) + 1) + 2)) 43 (l_forecastOf_39 v (((v 2 0) - 0).toNat + 1) (-1) 0) (v 12 (v kr k))))
theorem s_l_forecastOf_25 {X : Cx} {σ : Hp} {m0 : Nat} {T E : Int} {kr : Nat} (hG : GM σ m0) (hk : kr = 39 ∨ kr = 40) : ∀ (n : Nat) (last k : Int) (v : Vw) (hI : IM v T E) (hk0 : 0 ≤ k ∧ k ≤ 1000) (hl : 0 ≤ last ∧ last ≤ T + 300) (ht : HasF v) (hf : ∀ w, 0 ≤ w → w < v 2 0 → v 42 w ≤ T + 20 + 17 * k) (hm : (v 7 0 - k).toNat < n), Ev X m_X11_forecastOf 2 25 [some (va_rf (some m0)), some (va_rf (some (m0 + (kr - 11)))), some (.int (i32 last)), some (.int (i32 k)), none, none, none] [] (Hm σ m0 v) (.inl (some (.int (i32 (l_forecastOf_25 kr n last k v).1)))) (Hm σ m0 (l_forecastOf_25 kr n last k v).2) := by
  intro n
  induction n with
  | zero =>
    intro last k v hI hk0 hl ht hf hm
    exact absurd hm (Nat.not_lt_zero _)
  | succ n ih =>
    intro last k v hI hk0 hl ht hf hm
    have hT := hI.1
    have u2 : 0 ≤ v 2 0 ∧ v 2 0 ≤ 8 := hI.2 2 0
    have u7 : 0 ≤ v 7 0 ∧ v 7 0 ≤ 6 := hI.2 7 0
    refine Ev.iload_n (i := 3) dX11_forecastOf_25 rfl rfl ?_
    refine Ev.aload_n (i := 0) dX11_forecastOf_26 rfl rfl ?_
    refine Ex.gS (k := 7) (v 7 0) rfl hG (by decide) (tb6 (i := 217) rfl) rfl rfl dX11_forecastOf_27 ?_
    refine Ei.icmp_ge (tgt := 187) dX11_forecastOf_30 (by decide) ⟨by omega, by omega⟩ ⟨by omega, by omega⟩ (fun c11 => ?_) (fun c11 => ?_)
    · refine Ev.iload_n (i := 2) dX11_forecastOf_187 rfl rfl ?_
      exact Ev.iretE rfl nar_i dX11_forecastOf_188 (by rw [l_forecastOf_25, if_pos c11]; try rfl) (by first | rfl | (rw [l_forecastOf_25, if_pos c11]; try rfl))
    · refine Ei.const dX11_forecastOf_33 ?_
      refine Ev.istore dX11_forecastOf_34 (by decide) ?_
      refine Ei.const dX11_forecastOf_36 ?_
      refine Ev.istore dX11_forecastOf_37 (by decide) ?_
      refine Ev.fgt (ls' := [some (va_rf (some m0)), some (va_rf (some (m0 + (kr - 11)))), some (.int (i32 last)), some (.int (i32 k)), some (.int (i32 (-1))), some (.int (i32 0)), none]) ⟨rfl, ⟨rfl, ⟨rfl, ⟨rfl, ⟨rfl, ⟨rfl, trivial⟩⟩⟩⟩⟩⟩ ?_
      refine s_l_forecastOf_39 hG hI  (((v 2 0) - 0).toNat + 1) (-1) 0 (by show 0 ≤ 0 ∧ 0 ≤ 100; omega) (by show -1 ≤ (-1) ∧ (-1) ≤ 7; omega) (by show ((v 2 0) - 0).toNat < (((v 2 0) - 0).toNat + 1); omega) ?_
      have q12 := r_l_forecastOf_39 (v := v) (((v 2 0) - 0).toNat + 1) (-1) 0 (by omega) (by omega) (by omega) (by omega) (Or.inr ht)
      have q13 := hf (l_forecastOf_39 v (((v 2 0) - 0).toNat + 1) (-1) 0) (by omega) (by omega)
      have q14 : 0 ≤ v 2 0 ∧ v 2 0 ≤ 8 := hI.2 2 0
      refine Ev.aload_n (i := 0) dX11_forecastOf_91 rfl rfl ?_
      refine Em.gA (k := 12) hG (by decide) (by decide) (tb6 (i := 222) rfl) rfl rfl dX11_forecastOf_92 ?_
      refine Ev.aload_n (i := 1) dX11_forecastOf_95 rfl rfl ?_
      refine Ev.iload_n (i := 3) dX11_forecastOf_96 rfl rfl ?_
      have q15 : 0 ≤ v kr k ∧ v kr k ≤ 4 := by rcases hk with rfl | rfl <;> exact hI.2 _ k
      refine Ex.iald (k := kr) (v kr k) rfl hG (by omega) (by omega) (by rcases hk with rfl | rfl <;> rfl) (by omega) (by rcases hk with rfl | rfl <;> (show _ < ((6 : Nat) : Int); omega)) (by rcases hk with rfl | rfl <;> decide) dX11_forecastOf_97 ?_
      have q16 : 0 ≤ v 12 (v kr k) ∧ v 12 (v kr k) ≤ 3 := hI.2 12 (v kr k)
      refine Ex.iald (k := 12) (v 12 (v kr k)) rfl hG (by decide) (by decide) rfl (by omega) (by show _ < ((5 : Nat) : Int); omega) (by decide) dX11_forecastOf_98 ?_
      refine Ev.istore dX11_forecastOf_99 (by decide) ?_
      refine Ev.aload_n (i := 0) dX11_forecastOf_101 rfl rfl ?_
      refine Em.gA (k := 42) hG (by decide) (by decide) (tb7 (i := 12) rfl) rfl rfl dX11_forecastOf_102 ?_
      refine Ev.iload dX11_forecastOf_105 rfl ?_
      have q17 : 0 ≤ v 42 (l_forecastOf_39 v (((v 2 0) - 0).toNat + 1) (-1) 0) ∧ v 42 (l_forecastOf_39 v (((v 2 0) - 0).toNat + 1) (-1) 0) ≤ T + 300 := hI.2 42 (l_forecastOf_39 v (((v 2 0) - 0).toNat + 1) (-1) 0)
      refine Ex.iald (k := 42) (v 42 (l_forecastOf_39 v (((v 2 0) - 0).toNat + 1) (-1) 0)) rfl hG (by decide) (by decide) rfl (by omega) (by show _ < ((8 : Nat) : Int); omega) (by decide) dX11_forecastOf_107 ?_
      refine Ev.aload_n (i := 0) dX11_forecastOf_108 rfl rfl ?_
      refine Em.gA (k := 13) hG (by decide) (by decide) (tb6 (i := 223) rfl) rfl rfl dX11_forecastOf_109 ?_
      refine Ev.aload_n (i := 1) dX11_forecastOf_112 rfl rfl ?_
      refine Ev.iload_n (i := 3) dX11_forecastOf_113 rfl rfl ?_
      refine Ex.iald (k := kr) (v kr k) rfl hG (by omega) (by omega) (by rcases hk with rfl | rfl <;> rfl) (by omega) (by rcases hk with rfl | rfl <;> (show _ < ((6 : Nat) : Int); omega)) (by rcases hk with rfl | rfl <;> decide) dX11_forecastOf_114 ?_
      have q18 : 0 ≤ v 13 (v kr k) ∧ v 13 (v kr k) ≤ 14 := hI.2 13 (v kr k)
      refine Ex.iald (k := 13) (v 13 (v kr k)) rfl hG (by decide) (by decide) rfl (by omega) (by show _ < ((5 : Nat) : Int); omega) (by decide) dX11_forecastOf_115 ?_
      refine Ei.add dX11_forecastOf_116 ?_
      refine Ev.aload_n (i := 0) dX11_forecastOf_117 rfl rfl ?_
      refine Em.gA (k := 43) hG (by decide) (by decide) (tb7 (i := 13) rfl) rfl rfl dX11_forecastOf_118 ?_
      refine Ev.iload dX11_forecastOf_121 rfl ?_
      have q19 : -1 ≤ v 43 (l_forecastOf_39 v (((v 2 0) - 0).toNat + 1) (-1) 0) ∧ v 43 (l_forecastOf_39 v (((v 2 0) - 0).toNat + 1) (-1) 0) ≤ 3 := hI.2 43 (l_forecastOf_39 v (((v 2 0) - 0).toNat + 1) (-1) 0)
      refine Ex.iald (k := 43) (v 43 (l_forecastOf_39 v (((v 2 0) - 0).toNat + 1) (-1) 0)) rfl hG (by decide) (by decide) rfl (by omega) (by show _ < ((8 : Nat) : Int); omega) (by decide) dX11_forecastOf_123 ?_
      refine Ei.const dX11_forecastOf_124 ?_
      refine Ei.icmp_eq (tgt := 144) dX11_forecastOf_125 (by decide) ⟨by omega, by omega⟩ ⟨by omega, by omega⟩ (fun c20 => ?_) (fun c20 => ?_)
      · refine Ei.const dX11_forecastOf_144 ?_
        refine Ei.add dX11_forecastOf_145 ?_
        refine Ev.istore dX11_forecastOf_146 (by decide) ?_
        refine Ev.iload dX11_forecastOf_148 rfl ?_
        refine Ev.iload_n (i := 2) dX11_forecastOf_150 rfl rfl ?_
        refine Ei.icmp_le (tgt := 159) dX11_forecastOf_151 (by decide) ⟨by omega, by omega⟩ ⟨by omega, by omega⟩ (fun c21 => ?_) (fun c21 => ?_)
        · refine Ev.iload_n (i := 2) dX11_forecastOf_159 rfl rfl ?_
          refine Ev.istore_n (i := 2) dX11_forecastOf_160 rfl (by decide) ?_
          refine Ev.aload_n (i := 0) dX11_forecastOf_161 rfl rfl ?_
          refine Em.gA (k := 42) hG (by decide) (by decide) (tb7 (i := 12) rfl) rfl rfl dX11_forecastOf_162 ?_
          refine Ev.iload dX11_forecastOf_165 rfl ?_
          refine Ev.iload dX11_forecastOf_167 rfl ?_
          refine Ei.const dX11_forecastOf_169 ?_
          refine Ei.add dX11_forecastOf_170 ?_
          refine Em.iast (k := 42) hG (by decide) (by decide) rfl (by omega) (by show _ < ((8 : Nat) : Int); omega) (by decide) dX11_forecastOf_171 ?_
          refine Ev.aload_n (i := 0) dX11_forecastOf_172 rfl rfl ?_
          refine Em.gA (k := 43) hG (by decide) (by decide) (tb7 (i := 13) rfl) rfl rfl dX11_forecastOf_173 ?_
          refine Ev.iload dX11_forecastOf_176 rfl ?_
          refine Ev.iload dX11_forecastOf_178 rfl ?_
          refine Em.iast (k := 43) hG (by decide) (by decide) rfl (by omega) (by show _ < ((8 : Nat) : Int); omega) (by decide) dX11_forecastOf_180 ?_
          refine Ei.inc dX11_forecastOf_181 rfl (by decide) ?_
          refine Ev.goto (tgt := 25) dX11_forecastOf_184 (by decide) ?_
          rw [l_forecastOf_25, if_neg c11, if_pos c20, if_pos c21]
          exact Ev.fgt (ls' := [some (va_rf (some m0)), some (va_rf (some (m0 + (kr - 11)))), some (.int (i32 last)), some (.int (i32 (k + 1))), none, none, none]) ⟨rfl, ⟨rfl, ⟨rfl, ⟨rfl, trivial⟩⟩⟩⟩ (ih last (k + 1) (upv (upv v 42 (l_forecastOf_39 v (((v 2 0) - 0).toNat + 1) (-1) 0) ((((v 42 (l_forecastOf_39 v (((v 2 0) - 0).toNat + 1) (-1) 0)) + (v 13 (v kr k))) + 0) + 2)) 43 (l_forecastOf_39 v (((v 2 0) - 0).toNat + 1) (-1) 0) (v 12 (v kr k))) ((hI.up 42 (l_forecastOf_39 v (((v 2 0) - 0).toNat + 1) (-1) 0) ((((v 42 (l_forecastOf_39 v (((v 2 0) - 0).toNat + 1) (-1) 0)) + (v 13 (v kr k))) + 0) + 2) (by show 0 ≤ ((((v 42 (l_forecastOf_39 v (((v 2 0) - 0).toNat + 1) (-1) 0)) + (v 13 (v kr k))) + 0) + 2) ∧ ((((v 42 (l_forecastOf_39 v (((v 2 0) - 0).toNat + 1) (-1) 0)) + (v 13 (v kr k))) + 0) + 2) ≤ T + 300; omega)).up 43 (l_forecastOf_39 v (((v 2 0) - 0).toNat + 1) (-1) 0) (v 12 (v kr k)) (by show -1 ≤ (v 12 (v kr k)) ∧ (v 12 (v kr k)) ≤ 3; omega)) (by show 0 ≤ (k + 1) ∧ (k + 1) ≤ 1000; omega) (by show 0 ≤ last ∧ last ≤ T + 300; omega) (by exact ht) (by intro w h1 h2; have h3 := hf w h1 h2; unfold upv; repeat' split; all_goals omega) (by show ((v 7 0) - (k + 1)).toNat < n; omega))
        · refine Ev.iload dX11_forecastOf_154 rfl ?_
          refine Ev.goto (tgt := 160) dX11_forecastOf_156 (by decide) ?_
          refine Ev.istore_n (i := 2) dX11_forecastOf_160 rfl (by decide) ?_
          refine Ev.aload_n (i := 0) dX11_forecastOf_161 rfl rfl ?_
          refine Em.gA (k := 42) hG (by decide) (by decide) (tb7 (i := 12) rfl) rfl rfl dX11_forecastOf_162 ?_
          refine Ev.iload dX11_forecastOf_165 rfl ?_
          refine Ev.iload dX11_forecastOf_167 rfl ?_
          refine Ei.const dX11_forecastOf_169 ?_
          refine Ei.add dX11_forecastOf_170 ?_
          refine Em.iast (k := 42) hG (by decide) (by decide) rfl (by omega) (by show _ < ((8 : Nat) : Int); omega) (by decide) dX11_forecastOf_171 ?_
          refine Ev.aload_n (i := 0) dX11_forecastOf_172 rfl rfl ?_
          refine Em.gA (k := 43) hG (by decide) (by decide) (tb7 (i := 13) rfl) rfl rfl dX11_forecastOf_173 ?_
          refine Ev.iload dX11_forecastOf_176 rfl ?_
          refine Ev.iload dX11_forecastOf_178 rfl ?_
          refine Em.iast (k := 43) hG (by decide) (by decide) rfl (by omega) (by show _ < ((8 : Nat) : Int); omega) (by decide) dX11_forecastOf_180 ?_
          refine Ei.inc dX11_forecastOf_181 rfl (by decide) ?_
          refine Ev.goto (tgt := 25) dX11_forecastOf_184 (by decide) ?_
          rw [l_forecastOf_25, if_neg c11, if_pos c20, if_neg c21]
          exact Ev.fgt (ls' := [some (va_rf (some m0)), some (va_rf (some (m0 + (kr - 11)))), some (.int (i32 (((v 42 (l_forecastOf_39 v (((v 2 0) - 0).toNat + 1) (-1) 0)) + (v 13 (v kr k))) + 0))), some (.int (i32 (k + 1))), none, none, none]) ⟨rfl, ⟨rfl, ⟨rfl, ⟨rfl, trivial⟩⟩⟩⟩ (ih (((v 42 (l_forecastOf_39 v (((v 2 0) - 0).toNat + 1) (-1) 0)) + (v 13 (v kr k))) + 0) (k + 1) (upv (upv v 42 (l_forecastOf_39 v (((v 2 0) - 0).toNat + 1) (-1) 0) ((((v 42 (l_forecastOf_39 v (((v 2 0) - 0).toNat + 1) (-1) 0)) + (v 13 (v kr k))) + 0) + 2)) 43 (l_forecastOf_39 v (((v 2 0) - 0).toNat + 1) (-1) 0) (v 12 (v kr k))) ((hI.up 42 (l_forecastOf_39 v (((v 2 0) - 0).toNat + 1) (-1) 0) ((((v 42 (l_forecastOf_39 v (((v 2 0) - 0).toNat + 1) (-1) 0)) + (v 13 (v kr k))) + 0) + 2) (by show 0 ≤ ((((v 42 (l_forecastOf_39 v (((v 2 0) - 0).toNat + 1) (-1) 0)) + (v 13 (v kr k))) + 0) + 2) ∧ ((((v 42 (l_forecastOf_39 v (((v 2 0) - 0).toNat + 1) (-1) 0)) + (v 13 (v kr k))) + 0) + 2) ≤ T + 300; omega)).up 43 (l_forecastOf_39 v (((v 2 0) - 0).toNat + 1) (-1) 0) (v 12 (v kr k)) (by show -1 ≤ (v 12 (v kr k)) ∧ (v 12 (v kr k)) ≤ 3; omega)) (by show 0 ≤ (k + 1) ∧ (k + 1) ≤ 1000; omega) (by show 0 ≤ (((v 42 (l_forecastOf_39 v (((v 2 0) - 0).toNat + 1) (-1) 0)) + (v 13 (v kr k))) + 0) ∧ (((v 42 (l_forecastOf_39 v (((v 2 0) - 0).toNat + 1) (-1) 0)) + (v 13 (v kr k))) + 0) ≤ T + 300; omega) (by exact ht) (by intro w h1 h2; have h3 := hf w h1 h2; unfold upv; repeat' split; all_goals omega) (by show ((v 7 0) - (k + 1)).toNat < n; omega))
      · refine Ev.aload_n (i := 0) dX11_forecastOf_128 rfl rfl ?_
        refine Em.gA (k := 43) hG (by decide) (by decide) (tb7 (i := 13) rfl) rfl rfl dX11_forecastOf_129 ?_
        refine Ev.iload dX11_forecastOf_132 rfl ?_
        refine Ex.iald (k := 43) (v 43 (l_forecastOf_39 v (((v 2 0) - 0).toNat + 1) (-1) 0)) rfl hG (by decide) (by decide) rfl (by omega) (by show _ < ((8 : Nat) : Int); omega) (by decide) dX11_forecastOf_134 ?_
        refine Ev.iload dX11_forecastOf_135 rfl ?_
        refine Ei.icmp_eq (tgt := 144) dX11_forecastOf_137 (by decide) ⟨by omega, by omega⟩ ⟨by omega, by omega⟩ (fun c22 => ?_) (fun c22 => ?_)
        · refine Ei.const dX11_forecastOf_144 ?_
          refine Ei.add dX11_forecastOf_145 ?_
          refine Ev.istore dX11_forecastOf_146 (by decide) ?_
          refine Ev.iload dX11_forecastOf_148 rfl ?_
          refine Ev.iload_n (i := 2) dX11_forecastOf_150 rfl rfl ?_
          refine Ei.icmp_le (tgt := 159) dX11_forecastOf_151 (by decide) ⟨by omega, by omega⟩ ⟨by omega, by omega⟩ (fun c23 => ?_) (fun c23 => ?_)
          · refine Ev.iload_n (i := 2) dX11_forecastOf_159 rfl rfl ?_
            refine Ev.istore_n (i := 2) dX11_forecastOf_160 rfl (by decide) ?_
            refine Ev.aload_n (i := 0) dX11_forecastOf_161 rfl rfl ?_
            refine Em.gA (k := 42) hG (by decide) (by decide) (tb7 (i := 12) rfl) rfl rfl dX11_forecastOf_162 ?_
            refine Ev.iload dX11_forecastOf_165 rfl ?_
            refine Ev.iload dX11_forecastOf_167 rfl ?_
            refine Ei.const dX11_forecastOf_169 ?_
            refine Ei.add dX11_forecastOf_170 ?_
            refine Em.iast (k := 42) hG (by decide) (by decide) rfl (by omega) (by show _ < ((8 : Nat) : Int); omega) (by decide) dX11_forecastOf_171 ?_
            refine Ev.aload_n (i := 0) dX11_forecastOf_172 rfl rfl ?_
            refine Em.gA (k := 43) hG (by decide) (by decide) (tb7 (i := 13) rfl) rfl rfl dX11_forecastOf_173 ?_
            refine Ev.iload dX11_forecastOf_176 rfl ?_
            refine Ev.iload dX11_forecastOf_178 rfl ?_
            refine Em.iast (k := 43) hG (by decide) (by decide) rfl (by omega) (by show _ < ((8 : Nat) : Int); omega) (by decide) dX11_forecastOf_180 ?_
            refine Ei.inc dX11_forecastOf_181 rfl (by decide) ?_
            refine Ev.goto (tgt := 25) dX11_forecastOf_184 (by decide) ?_
            rw [l_forecastOf_25, if_neg c11, if_neg c20, if_pos c22, if_pos c23]
            exact Ev.fgt (ls' := [some (va_rf (some m0)), some (va_rf (some (m0 + (kr - 11)))), some (.int (i32 last)), some (.int (i32 (k + 1))), none, none, none]) ⟨rfl, ⟨rfl, ⟨rfl, ⟨rfl, trivial⟩⟩⟩⟩ (ih last (k + 1) (upv (upv v 42 (l_forecastOf_39 v (((v 2 0) - 0).toNat + 1) (-1) 0) ((((v 42 (l_forecastOf_39 v (((v 2 0) - 0).toNat + 1) (-1) 0)) + (v 13 (v kr k))) + 0) + 2)) 43 (l_forecastOf_39 v (((v 2 0) - 0).toNat + 1) (-1) 0) (v 12 (v kr k))) ((hI.up 42 (l_forecastOf_39 v (((v 2 0) - 0).toNat + 1) (-1) 0) ((((v 42 (l_forecastOf_39 v (((v 2 0) - 0).toNat + 1) (-1) 0)) + (v 13 (v kr k))) + 0) + 2) (by show 0 ≤ ((((v 42 (l_forecastOf_39 v (((v 2 0) - 0).toNat + 1) (-1) 0)) + (v 13 (v kr k))) + 0) + 2) ∧ ((((v 42 (l_forecastOf_39 v (((v 2 0) - 0).toNat + 1) (-1) 0)) + (v 13 (v kr k))) + 0) + 2) ≤ T + 300; omega)).up 43 (l_forecastOf_39 v (((v 2 0) - 0).toNat + 1) (-1) 0) (v 12 (v kr k)) (by show -1 ≤ (v 12 (v kr k)) ∧ (v 12 (v kr k)) ≤ 3; omega)) (by show 0 ≤ (k + 1) ∧ (k + 1) ≤ 1000; omega) (by show 0 ≤ last ∧ last ≤ T + 300; omega) (by exact ht) (by intro w h1 h2; have h3 := hf w h1 h2; unfold upv; repeat' split; all_goals omega) (by show ((v 7 0) - (k + 1)).toNat < n; omega))
          · refine Ev.iload dX11_forecastOf_154 rfl ?_
            refine Ev.goto (tgt := 160) dX11_forecastOf_156 (by decide) ?_
            refine Ev.istore_n (i := 2) dX11_forecastOf_160 rfl (by decide) ?_
            refine Ev.aload_n (i := 0) dX11_forecastOf_161 rfl rfl ?_
            refine Em.gA (k := 42) hG (by decide) (by decide) (tb7 (i := 12) rfl) rfl rfl dX11_forecastOf_162 ?_
            refine Ev.iload dX11_forecastOf_165 rfl ?_
            refine Ev.iload dX11_forecastOf_167 rfl ?_
            refine Ei.const dX11_forecastOf_169 ?_
            refine Ei.add dX11_forecastOf_170 ?_
            refine Em.iast (k := 42) hG (by decide) (by decide) rfl (by omega) (by show _ < ((8 : Nat) : Int); omega) (by decide) dX11_forecastOf_171 ?_
            refine Ev.aload_n (i := 0) dX11_forecastOf_172 rfl rfl ?_
            refine Em.gA (k := 43) hG (by decide) (by decide) (tb7 (i := 13) rfl) rfl rfl dX11_forecastOf_173 ?_
            refine Ev.iload dX11_forecastOf_176 rfl ?_
            refine Ev.iload dX11_forecastOf_178 rfl ?_
            refine Em.iast (k := 43) hG (by decide) (by decide) rfl (by omega) (by show _ < ((8 : Nat) : Int); omega) (by decide) dX11_forecastOf_180 ?_
            refine Ei.inc dX11_forecastOf_181 rfl (by decide) ?_
            refine Ev.goto (tgt := 25) dX11_forecastOf_184 (by decide) ?_
            rw [l_forecastOf_25, if_neg c11, if_neg c20, if_pos c22, if_neg c23]
            exact Ev.fgt (ls' := [some (va_rf (some m0)), some (va_rf (some (m0 + (kr - 11)))), some (.int (i32 (((v 42 (l_forecastOf_39 v (((v 2 0) - 0).toNat + 1) (-1) 0)) + (v 13 (v kr k))) + 0))), some (.int (i32 (k + 1))), none, none, none]) ⟨rfl, ⟨rfl, ⟨rfl, ⟨rfl, trivial⟩⟩⟩⟩ (ih (((v 42 (l_forecastOf_39 v (((v 2 0) - 0).toNat + 1) (-1) 0)) + (v 13 (v kr k))) + 0) (k + 1) (upv (upv v 42 (l_forecastOf_39 v (((v 2 0) - 0).toNat + 1) (-1) 0) ((((v 42 (l_forecastOf_39 v (((v 2 0) - 0).toNat + 1) (-1) 0)) + (v 13 (v kr k))) + 0) + 2)) 43 (l_forecastOf_39 v (((v 2 0) - 0).toNat + 1) (-1) 0) (v 12 (v kr k))) ((hI.up 42 (l_forecastOf_39 v (((v 2 0) - 0).toNat + 1) (-1) 0) ((((v 42 (l_forecastOf_39 v (((v 2 0) - 0).toNat + 1) (-1) 0)) + (v 13 (v kr k))) + 0) + 2) (by show 0 ≤ ((((v 42 (l_forecastOf_39 v (((v 2 0) - 0).toNat + 1) (-1) 0)) + (v 13 (v kr k))) + 0) + 2) ∧ ((((v 42 (l_forecastOf_39 v (((v 2 0) - 0).toNat + 1) (-1) 0)) + (v 13 (v kr k))) + 0) + 2) ≤ T + 300; omega)).up 43 (l_forecastOf_39 v (((v 2 0) - 0).toNat + 1) (-1) 0) (v 12 (v kr k)) (by show -1 ≤ (v 12 (v kr k)) ∧ (v 12 (v kr k)) ≤ 3; omega)) (by show 0 ≤ (k + 1) ∧ (k + 1) ≤ 1000; omega) (by show 0 ≤ (((v 42 (l_forecastOf_39 v (((v 2 0) - 0).toNat + 1) (-1) 0)) + (v 13 (v kr k))) + 0) ∧ (((v 42 (l_forecastOf_39 v (((v 2 0) - 0).toNat + 1) (-1) 0)) + (v 13 (v kr k))) + 0) ≤ T + 300; omega) (by exact ht) (by intro w h1 h2; have h3 := hf w h1 h2; unfold upv; repeat' split; all_goals omega) (by show ((v 7 0) - (k + 1)).toNat < n; omega))
        · refine Ei.const dX11_forecastOf_140 ?_
          refine Ev.goto (tgt := 145) dX11_forecastOf_141 (by decide) ?_
          refine Ei.add dX11_forecastOf_145 ?_
          refine Ev.istore dX11_forecastOf_146 (by decide) ?_
          refine Ev.iload dX11_forecastOf_148 rfl ?_
          refine Ev.iload_n (i := 2) dX11_forecastOf_150 rfl rfl ?_
          refine Ei.icmp_le (tgt := 159) dX11_forecastOf_151 (by decide) ⟨by omega, by omega⟩ ⟨by omega, by omega⟩ (fun c24 => ?_) (fun c24 => ?_)
          · refine Ev.iload_n (i := 2) dX11_forecastOf_159 rfl rfl ?_
            refine Ev.istore_n (i := 2) dX11_forecastOf_160 rfl (by decide) ?_
            refine Ev.aload_n (i := 0) dX11_forecastOf_161 rfl rfl ?_
            refine Em.gA (k := 42) hG (by decide) (by decide) (tb7 (i := 12) rfl) rfl rfl dX11_forecastOf_162 ?_
            refine Ev.iload dX11_forecastOf_165 rfl ?_
            refine Ev.iload dX11_forecastOf_167 rfl ?_
            refine Ei.const dX11_forecastOf_169 ?_
            refine Ei.add dX11_forecastOf_170 ?_
            refine Em.iast (k := 42) hG (by decide) (by decide) rfl (by omega) (by show _ < ((8 : Nat) : Int); omega) (by decide) dX11_forecastOf_171 ?_
            refine Ev.aload_n (i := 0) dX11_forecastOf_172 rfl rfl ?_
            refine Em.gA (k := 43) hG (by decide) (by decide) (tb7 (i := 13) rfl) rfl rfl dX11_forecastOf_173 ?_
            refine Ev.iload dX11_forecastOf_176 rfl ?_
            refine Ev.iload dX11_forecastOf_178 rfl ?_
            refine Em.iast (k := 43) hG (by decide) (by decide) rfl (by omega) (by show _ < ((8 : Nat) : Int); omega) (by decide) dX11_forecastOf_180 ?_
            refine Ei.inc dX11_forecastOf_181 rfl (by decide) ?_
            refine Ev.goto (tgt := 25) dX11_forecastOf_184 (by decide) ?_
            rw [l_forecastOf_25, if_neg c11, if_neg c20, if_neg c22, if_pos c24]
            exact Ev.fgt (ls' := [some (va_rf (some m0)), some (va_rf (some (m0 + (kr - 11)))), some (.int (i32 last)), some (.int (i32 (k + 1))), none, none, none]) ⟨rfl, ⟨rfl, ⟨rfl, ⟨rfl, trivial⟩⟩⟩⟩ (ih last (k + 1) (upv (upv v 42 (l_forecastOf_39 v (((v 2 0) - 0).toNat + 1) (-1) 0) ((((v 42 (l_forecastOf_39 v (((v 2 0) - 0).toNat + 1) (-1) 0)) + (v 13 (v kr k))) + 1) + 2)) 43 (l_forecastOf_39 v (((v 2 0) - 0).toNat + 1) (-1) 0) (v 12 (v kr k))) ((hI.up 42 (l_forecastOf_39 v (((v 2 0) - 0).toNat + 1) (-1) 0) ((((v 42 (l_forecastOf_39 v (((v 2 0) - 0).toNat + 1) (-1) 0)) + (v 13 (v kr k))) + 1) + 2) (by show 0 ≤ ((((v 42 (l_forecastOf_39 v (((v 2 0) - 0).toNat + 1) (-1) 0)) + (v 13 (v kr k))) + 1) + 2) ∧ ((((v 42 (l_forecastOf_39 v (((v 2 0) - 0).toNat + 1) (-1) 0)) + (v 13 (v kr k))) + 1) + 2) ≤ T + 300; omega)).up 43 (l_forecastOf_39 v (((v 2 0) - 0).toNat + 1) (-1) 0) (v 12 (v kr k)) (by show -1 ≤ (v 12 (v kr k)) ∧ (v 12 (v kr k)) ≤ 3; omega)) (by show 0 ≤ (k + 1) ∧ (k + 1) ≤ 1000; omega) (by show 0 ≤ last ∧ last ≤ T + 300; omega) (by exact ht) (by intro w h1 h2; have h3 := hf w h1 h2; unfold upv; repeat' split; all_goals omega) (by show ((v 7 0) - (k + 1)).toNat < n; omega))
          · refine Ev.iload dX11_forecastOf_154 rfl ?_
            refine Ev.goto (tgt := 160) dX11_forecastOf_156 (by decide) ?_
            refine Ev.istore_n (i := 2) dX11_forecastOf_160 rfl (by decide) ?_
            refine Ev.aload_n (i := 0) dX11_forecastOf_161 rfl rfl ?_
            refine Em.gA (k := 42) hG (by decide) (by decide) (tb7 (i := 12) rfl) rfl rfl dX11_forecastOf_162 ?_
            refine Ev.iload dX11_forecastOf_165 rfl ?_
            refine Ev.iload dX11_forecastOf_167 rfl ?_
            refine Ei.const dX11_forecastOf_169 ?_
            refine Ei.add dX11_forecastOf_170 ?_
            refine Em.iast (k := 42) hG (by decide) (by decide) rfl (by omega) (by show _ < ((8 : Nat) : Int); omega) (by decide) dX11_forecastOf_171 ?_
            refine Ev.aload_n (i := 0) dX11_forecastOf_172 rfl rfl ?_
            refine Em.gA (k := 43) hG (by decide) (by decide) (tb7 (i := 13) rfl) rfl rfl dX11_forecastOf_173 ?_
            refine Ev.iload dX11_forecastOf_176 rfl ?_
            refine Ev.iload dX11_forecastOf_178 rfl ?_
            refine Em.iast (k := 43) hG (by decide) (by decide) rfl (by omega) (by show _ < ((8 : Nat) : Int); omega) (by decide) dX11_forecastOf_180 ?_
            refine Ei.inc dX11_forecastOf_181 rfl (by decide) ?_
            refine Ev.goto (tgt := 25) dX11_forecastOf_184 (by decide) ?_
            rw [l_forecastOf_25, if_neg c11, if_neg c20, if_neg c22, if_neg c24]
            exact Ev.fgt (ls' := [some (va_rf (some m0)), some (va_rf (some (m0 + (kr - 11)))), some (.int (i32 (((v 42 (l_forecastOf_39 v (((v 2 0) - 0).toNat + 1) (-1) 0)) + (v 13 (v kr k))) + 1))), some (.int (i32 (k + 1))), none, none, none]) ⟨rfl, ⟨rfl, ⟨rfl, ⟨rfl, trivial⟩⟩⟩⟩ (ih (((v 42 (l_forecastOf_39 v (((v 2 0) - 0).toNat + 1) (-1) 0)) + (v 13 (v kr k))) + 1) (k + 1) (upv (upv v 42 (l_forecastOf_39 v (((v 2 0) - 0).toNat + 1) (-1) 0) ((((v 42 (l_forecastOf_39 v (((v 2 0) - 0).toNat + 1) (-1) 0)) + (v 13 (v kr k))) + 1) + 2)) 43 (l_forecastOf_39 v (((v 2 0) - 0).toNat + 1) (-1) 0) (v 12 (v kr k))) ((hI.up 42 (l_forecastOf_39 v (((v 2 0) - 0).toNat + 1) (-1) 0) ((((v 42 (l_forecastOf_39 v (((v 2 0) - 0).toNat + 1) (-1) 0)) + (v 13 (v kr k))) + 1) + 2) (by show 0 ≤ ((((v 42 (l_forecastOf_39 v (((v 2 0) - 0).toNat + 1) (-1) 0)) + (v 13 (v kr k))) + 1) + 2) ∧ ((((v 42 (l_forecastOf_39 v (((v 2 0) - 0).toNat + 1) (-1) 0)) + (v 13 (v kr k))) + 1) + 2) ≤ T + 300; omega)).up 43 (l_forecastOf_39 v (((v 2 0) - 0).toNat + 1) (-1) 0) (v 12 (v kr k)) (by show -1 ≤ (v 12 (v kr k)) ∧ (v 12 (v kr k)) ≤ 3; omega)) (by show 0 ≤ (k + 1) ∧ (k + 1) ≤ 1000; omega) (by show 0 ≤ (((v 42 (l_forecastOf_39 v (((v 2 0) - 0).toNat + 1) (-1) 0)) + (v 13 (v kr k))) + 1) ∧ (((v 42 (l_forecastOf_39 v (((v 2 0) - 0).toNat + 1) (-1) 0)) + (v 13 (v kr k))) + 1) ≤ T + 300; omega) (by exact ht) (by intro w h1 h2; have h3 := hf w h1 h2; unfold upv; repeat' split; all_goals omega) (by show ((v 7 0) - (k + 1)).toNat < n; omega))
theorem fr_l_forecastOf_25 {kr : Nat} : ∀ (n : Nat) (last k : Int) (v : Vw) (fk : Nat) (fi : Int) (hk : fk ≠ 42 ∧ fk ≠ 43), (l_forecastOf_25 kr n last k v).2 fk fi = v fk fi := by
  intro n last k v fk fi hk
  induction n generalizing last k v with
  | zero => rfl
  | succ n ih =>
    by_cases c11 : (v 7 0) ≤ k
    · rw [l_forecastOf_25, if_pos c11]
      try rfl
    · by_cases c20 : (v 43 (l_forecastOf_39 v (((v 2 0) - 0).toNat + 1) (-1) 0)) = (-1)
      · by_cases c21 : (((v 42 (l_forecastOf_39 v (((v 2 0) - 0).toNat + 1) (-1) 0)) + (v 13 (v kr k))) + 0) ≤ last
        · rw [l_forecastOf_25, if_neg c11, if_pos c20, if_pos c21]
          exact (ih last (k + 1) (upv (upv v 42 (l_forecastOf_39 v (((v 2 0) - 0).toNat + 1) (-1) 0) ((((v 42 (l_forecastOf_39 v (((v 2 0) - 0).toNat + 1) (-1) 0)) + (v 13 (v kr k))) + 0) + 2)) 43 (l_forecastOf_39 v (((v 2 0) - 0).toNat + 1) (-1) 0) (v 12 (v kr k)))).trans ((upv_nk (by omega)).trans ((upv_nk (by omega)).trans rfl))
        · rw [l_forecastOf_25, if_neg c11, if_pos c20, if_neg c21]
          exact (ih (((v 42 (l_forecastOf_39 v (((v 2 0) - 0).toNat + 1) (-1) 0)) + (v 13 (v kr k))) + 0) (k + 1) (upv (upv v 42 (l_forecastOf_39 v (((v 2 0) - 0).toNat + 1) (-1) 0) ((((v 42 (l_forecastOf_39 v (((v 2 0) - 0).toNat + 1) (-1) 0)) + (v 13 (v kr k))) + 0) + 2)) 43 (l_forecastOf_39 v (((v 2 0) - 0).toNat + 1) (-1) 0) (v 12 (v kr k)))).trans ((upv_nk (by omega)).trans ((upv_nk (by omega)).trans rfl))
      · by_cases c22 : (v 43 (l_forecastOf_39 v (((v 2 0) - 0).toNat + 1) (-1) 0)) = (v 12 (v kr k))
        · by_cases c23 : (((v 42 (l_forecastOf_39 v (((v 2 0) - 0).toNat + 1) (-1) 0)) + (v 13 (v kr k))) + 0) ≤ last
          · rw [l_forecastOf_25, if_neg c11, if_neg c20, if_pos c22, if_pos c23]
            exact (ih last (k + 1) (upv (upv v 42 (l_forecastOf_39 v (((v 2 0) - 0).toNat + 1) (-1) 0) ((((v 42 (l_forecastOf_39 v (((v 2 0) - 0).toNat + 1) (-1) 0)) + (v 13 (v kr k))) + 0) + 2)) 43 (l_forecastOf_39 v (((v 2 0) - 0).toNat + 1) (-1) 0) (v 12 (v kr k)))).trans ((upv_nk (by omega)).trans ((upv_nk (by omega)).trans rfl))
          · rw [l_forecastOf_25, if_neg c11, if_neg c20, if_pos c22, if_neg c23]
            exact (ih (((v 42 (l_forecastOf_39 v (((v 2 0) - 0).toNat + 1) (-1) 0)) + (v 13 (v kr k))) + 0) (k + 1) (upv (upv v 42 (l_forecastOf_39 v (((v 2 0) - 0).toNat + 1) (-1) 0) ((((v 42 (l_forecastOf_39 v (((v 2 0) - 0).toNat + 1) (-1) 0)) + (v 13 (v kr k))) + 0) + 2)) 43 (l_forecastOf_39 v (((v 2 0) - 0).toNat + 1) (-1) 0) (v 12 (v kr k)))).trans ((upv_nk (by omega)).trans ((upv_nk (by omega)).trans rfl))
        · by_cases c24 : (((v 42 (l_forecastOf_39 v (((v 2 0) - 0).toNat + 1) (-1) 0)) + (v 13 (v kr k))) + 1) ≤ last
          · rw [l_forecastOf_25, if_neg c11, if_neg c20, if_neg c22, if_pos c24]
            exact (ih last (k + 1) (upv (upv v 42 (l_forecastOf_39 v (((v 2 0) - 0).toNat + 1) (-1) 0) ((((v 42 (l_forecastOf_39 v (((v 2 0) - 0).toNat + 1) (-1) 0)) + (v 13 (v kr k))) + 1) + 2)) 43 (l_forecastOf_39 v (((v 2 0) - 0).toNat + 1) (-1) 0) (v 12 (v kr k)))).trans ((upv_nk (by omega)).trans ((upv_nk (by omega)).trans rfl))
          · rw [l_forecastOf_25, if_neg c11, if_neg c20, if_neg c22, if_neg c24]
            exact (ih (((v 42 (l_forecastOf_39 v (((v 2 0) - 0).toNat + 1) (-1) 0)) + (v 13 (v kr k))) + 1) (k + 1) (upv (upv v 42 (l_forecastOf_39 v (((v 2 0) - 0).toNat + 1) (-1) 0) ((((v 42 (l_forecastOf_39 v (((v 2 0) - 0).toNat + 1) (-1) 0)) + (v 13 (v kr k))) + 1) + 2)) 43 (l_forecastOf_39 v (((v 2 0) - 0).toNat + 1) (-1) 0) (v 12 (v kr k)))).trans ((upv_nk (by omega)).trans ((upv_nk (by omega)).trans rfl))
theorem i_l_forecastOf_25 {T E : Int} {kr : Nat} (hk : kr = 39 ∨ kr = 40) : ∀ (n : Nat) (last k : Int) (v : Vw) (hI : IM v T E) (hk0 : 0 ≤ k ∧ k ≤ 1000) (hl : 0 ≤ last ∧ last ≤ T + 300) (ht : HasF v) (hf : ∀ w, 0 ≤ w → w < v 2 0 → v 42 w ≤ T + 20 + 17 * k), IM (l_forecastOf_25 kr n last k v).2 T (E) ∧ (0 ≤ (l_forecastOf_25 kr n last k v).1 ∧ (l_forecastOf_25 kr n last k v).1 ≤ T + 300) := by
  intro n
  induction n with
  | zero =>
    intro last k v hI hk0 hl ht hf
    have hT := hI.1
    exact ⟨hI, (by show 0 ≤ 0 ∧ 0 ≤ T + 300; omega)⟩
  | succ n ih =>
    intro last k v hI hk0 hl ht hf
    have hT := hI.1
    have u2 : 0 ≤ v 2 0 ∧ v 2 0 ≤ 8 := hI.2 2 0
    have u7 : 0 ≤ v 7 0 ∧ v 7 0 ≤ 6 := hI.2 7 0
    by_cases c11 : (v 7 0) ≤ k
    · rw [l_forecastOf_25, if_pos c11]
      exact ⟨hI, (by show 0 ≤ last ∧ last ≤ T + 300; omega)⟩
    · have q12 := r_l_forecastOf_39 (v := v) (((v 2 0) - 0).toNat + 1) (-1) 0 (by omega) (by omega) (by omega) (by omega) (Or.inr ht)
      have q13 := hf (l_forecastOf_39 v (((v 2 0) - 0).toNat + 1) (-1) 0) (by omega) (by omega)
      have q14 : 0 ≤ v 2 0 ∧ v 2 0 ≤ 8 := hI.2 2 0
      have q15 : 0 ≤ v kr k ∧ v kr k ≤ 4 := by rcases hk with rfl | rfl <;> exact hI.2 _ k
      have q16 : 0 ≤ v 12 (v kr k) ∧ v 12 (v kr k) ≤ 3 := hI.2 12 (v kr k)
      have q17 : 0 ≤ v 42 (l_forecastOf_39 v (((v 2 0) - 0).toNat + 1) (-1) 0) ∧ v 42 (l_forecastOf_39 v (((v 2 0) - 0).toNat + 1) (-1) 0) ≤ T + 300 := hI.2 42 (l_forecastOf_39 v (((v 2 0) - 0).toNat + 1) (-1) 0)
      have q18 : 0 ≤ v 13 (v kr k) ∧ v 13 (v kr k) ≤ 14 := hI.2 13 (v kr k)
      have q19 : -1 ≤ v 43 (l_forecastOf_39 v (((v 2 0) - 0).toNat + 1) (-1) 0) ∧ v 43 (l_forecastOf_39 v (((v 2 0) - 0).toNat + 1) (-1) 0) ≤ 3 := hI.2 43 (l_forecastOf_39 v (((v 2 0) - 0).toNat + 1) (-1) 0)
      by_cases c20 : (v 43 (l_forecastOf_39 v (((v 2 0) - 0).toNat + 1) (-1) 0)) = (-1)
      · by_cases c21 : (((v 42 (l_forecastOf_39 v (((v 2 0) - 0).toNat + 1) (-1) 0)) + (v 13 (v kr k))) + 0) ≤ last
        · rw [l_forecastOf_25, if_neg c11, if_pos c20, if_pos c21]
          exact ih last (k + 1) (upv (upv v 42 (l_forecastOf_39 v (((v 2 0) - 0).toNat + 1) (-1) 0) ((((v 42 (l_forecastOf_39 v (((v 2 0) - 0).toNat + 1) (-1) 0)) + (v 13 (v kr k))) + 0) + 2)) 43 (l_forecastOf_39 v (((v 2 0) - 0).toNat + 1) (-1) 0) (v 12 (v kr k))) ((hI.up 42 (l_forecastOf_39 v (((v 2 0) - 0).toNat + 1) (-1) 0) ((((v 42 (l_forecastOf_39 v (((v 2 0) - 0).toNat + 1) (-1) 0)) + (v 13 (v kr k))) + 0) + 2) (by show 0 ≤ ((((v 42 (l_forecastOf_39 v (((v 2 0) - 0).toNat + 1) (-1) 0)) + (v 13 (v kr k))) + 0) + 2) ∧ ((((v 42 (l_forecastOf_39 v (((v 2 0) - 0).toNat + 1) (-1) 0)) + (v 13 (v kr k))) + 0) + 2) ≤ T + 300; omega)).up 43 (l_forecastOf_39 v (((v 2 0) - 0).toNat + 1) (-1) 0) (v 12 (v kr k)) (by show -1 ≤ (v 12 (v kr k)) ∧ (v 12 (v kr k)) ≤ 3; omega)) (by show 0 ≤ (k + 1) ∧ (k + 1) ≤ 1000; omega) (by show 0 ≤ last ∧ last ≤ T + 300; omega) (by exact ht) (by intro w h1 h2; have h3 := hf w h1 h2; unfold upv; repeat' split; all_goals omega)
        · rw [l_forecastOf_25, if_neg c11, if_pos c20, if_neg c21]
          exact ih (((v 42 (l_forecastOf_39 v (((v 2 0) - 0).toNat + 1) (-1) 0)) + (v 13 (v kr k))) + 0) (k + 1) (upv (upv v 42 (l_forecastOf_39 v (((v 2 0) - 0).toNat + 1) (-1) 0) ((((v 42 (l_forecastOf_39 v (((v 2 0) - 0).toNat + 1) (-1) 0)) + (v 13 (v kr k))) + 0) + 2)) 43 (l_forecastOf_39 v (((v 2 0) - 0).toNat + 1) (-1) 0) (v 12 (v kr k))) ((hI.up 42 (l_forecastOf_39 v (((v 2 0) - 0).toNat + 1) (-1) 0) ((((v 42 (l_forecastOf_39 v (((v 2 0) - 0).toNat + 1) (-1) 0)) + (v 13 (v kr k))) + 0) + 2) (by show 0 ≤ ((((v 42 (l_forecastOf_39 v (((v 2 0) - 0).toNat + 1) (-1) 0)) + (v 13 (v kr k))) + 0) + 2) ∧ ((((v 42 (l_forecastOf_39 v (((v 2 0) - 0).toNat + 1) (-1) 0)) + (v 13 (v kr k))) + 0) + 2) ≤ T + 300; omega)).up 43 (l_forecastOf_39 v (((v 2 0) - 0).toNat + 1) (-1) 0) (v 12 (v kr k)) (by show -1 ≤ (v 12 (v kr k)) ∧ (v 12 (v kr k)) ≤ 3; omega)) (by show 0 ≤ (k + 1) ∧ (k + 1) ≤ 1000; omega) (by show 0 ≤ (((v 42 (l_forecastOf_39 v (((v 2 0) - 0).toNat + 1) (-1) 0)) + (v 13 (v kr k))) + 0) ∧ (((v 42 (l_forecastOf_39 v (((v 2 0) - 0).toNat + 1) (-1) 0)) + (v 13 (v kr k))) + 0) ≤ T + 300; omega) (by exact ht) (by intro w h1 h2; have h3 := hf w h1 h2; unfold upv; repeat' split; all_goals omega)
      · by_cases c22 : (v 43 (l_forecastOf_39 v (((v 2 0) - 0).toNat + 1) (-1) 0)) = (v 12 (v kr k))
        · by_cases c23 : (((v 42 (l_forecastOf_39 v (((v 2 0) - 0).toNat + 1) (-1) 0)) + (v 13 (v kr k))) + 0) ≤ last
          · rw [l_forecastOf_25, if_neg c11, if_neg c20, if_pos c22, if_pos c23]
            exact ih last (k + 1) (upv (upv v 42 (l_forecastOf_39 v (((v 2 0) - 0).toNat + 1) (-1) 0) ((((v 42 (l_forecastOf_39 v (((v 2 0) - 0).toNat + 1) (-1) 0)) + (v 13 (v kr k))) + 0) + 2)) 43 (l_forecastOf_39 v (((v 2 0) - 0).toNat + 1) (-1) 0) (v 12 (v kr k))) ((hI.up 42 (l_forecastOf_39 v (((v 2 0) - 0).toNat + 1) (-1) 0) ((((v 42 (l_forecastOf_39 v (((v 2 0) - 0).toNat + 1) (-1) 0)) + (v 13 (v kr k))) + 0) + 2) (by show 0 ≤ ((((v 42 (l_forecastOf_39 v (((v 2 0) - 0).toNat + 1) (-1) 0)) + (v 13 (v kr k))) + 0) + 2) ∧ ((((v 42 (l_forecastOf_39 v (((v 2 0) - 0).toNat + 1) (-1) 0)) + (v 13 (v kr k))) + 0) + 2) ≤ T + 300; omega)).up 43 (l_forecastOf_39 v (((v 2 0) - 0).toNat + 1) (-1) 0) (v 12 (v kr k)) (by show -1 ≤ (v 12 (v kr k)) ∧ (v 12 (v kr k)) ≤ 3; omega)) (by show 0 ≤ (k + 1) ∧ (k + 1) ≤ 1000; omega) (by show 0 ≤ last ∧ last ≤ T + 300; omega) (by exact ht) (by intro w h1 h2; have h3 := hf w h1 h2; unfold upv; repeat' split; all_goals omega)
          · rw [l_forecastOf_25, if_neg c11, if_neg c20, if_pos c22, if_neg c23]
            exact ih (((v 42 (l_forecastOf_39 v (((v 2 0) - 0).toNat + 1) (-1) 0)) + (v 13 (v kr k))) + 0) (k + 1) (upv (upv v 42 (l_forecastOf_39 v (((v 2 0) - 0).toNat + 1) (-1) 0) ((((v 42 (l_forecastOf_39 v (((v 2 0) - 0).toNat + 1) (-1) 0)) + (v 13 (v kr k))) + 0) + 2)) 43 (l_forecastOf_39 v (((v 2 0) - 0).toNat + 1) (-1) 0) (v 12 (v kr k))) ((hI.up 42 (l_forecastOf_39 v (((v 2 0) - 0).toNat + 1) (-1) 0) ((((v 42 (l_forecastOf_39 v (((v 2 0) - 0).toNat + 1) (-1) 0)) + (v 13 (v kr k))) + 0) + 2) (by show 0 ≤ ((((v 42 (l_forecastOf_39 v (((v 2 0) - 0).toNat + 1) (-1) 0)) + (v 13 (v kr k))) + 0) + 2) ∧ ((((v 42 (l_forecastOf_39 v (((v 2 0) - 0).toNat + 1) (-1) 0)) + (v 13 (v kr k))) + 0) + 2) ≤ T + 300; omega)).up 43 (l_forecastOf_39 v (((v 2 0) - 0).toNat + 1) (-1) 0) (v 12 (v kr k)) (by show -1 ≤ (v 12 (v kr k)) ∧ (v 12 (v kr k)) ≤ 3; omega)) (by show 0 ≤ (k + 1) ∧ (k + 1) ≤ 1000; omega) (by show 0 ≤ (((v 42 (l_forecastOf_39 v (((v 2 0) - 0).toNat + 1) (-1) 0)) + (v 13 (v kr k))) + 0) ∧ (((v 42 (l_forecastOf_39 v (((v 2 0) - 0).toNat + 1) (-1) 0)) + (v 13 (v kr k))) + 0) ≤ T + 300; omega) (by exact ht) (by intro w h1 h2; have h3 := hf w h1 h2; unfold upv; repeat' split; all_goals omega)
        · by_cases c24 : (((v 42 (l_forecastOf_39 v (((v 2 0) - 0).toNat + 1) (-1) 0)) + (v 13 (v kr k))) + 1) ≤ last
          · rw [l_forecastOf_25, if_neg c11, if_neg c20, if_neg c22, if_pos c24]
            exact ih last (k + 1) (upv (upv v 42 (l_forecastOf_39 v (((v 2 0) - 0).toNat + 1) (-1) 0) ((((v 42 (l_forecastOf_39 v (((v 2 0) - 0).toNat + 1) (-1) 0)) + (v 13 (v kr k))) + 1) + 2)) 43 (l_forecastOf_39 v (((v 2 0) - 0).toNat + 1) (-1) 0) (v 12 (v kr k))) ((hI.up 42 (l_forecastOf_39 v (((v 2 0) - 0).toNat + 1) (-1) 0) ((((v 42 (l_forecastOf_39 v (((v 2 0) - 0).toNat + 1) (-1) 0)) + (v 13 (v kr k))) + 1) + 2) (by show 0 ≤ ((((v 42 (l_forecastOf_39 v (((v 2 0) - 0).toNat + 1) (-1) 0)) + (v 13 (v kr k))) + 1) + 2) ∧ ((((v 42 (l_forecastOf_39 v (((v 2 0) - 0).toNat + 1) (-1) 0)) + (v 13 (v kr k))) + 1) + 2) ≤ T + 300; omega)).up 43 (l_forecastOf_39 v (((v 2 0) - 0).toNat + 1) (-1) 0) (v 12 (v kr k)) (by show -1 ≤ (v 12 (v kr k)) ∧ (v 12 (v kr k)) ≤ 3; omega)) (by show 0 ≤ (k + 1) ∧ (k + 1) ≤ 1000; omega) (by show 0 ≤ last ∧ last ≤ T + 300; omega) (by exact ht) (by intro w h1 h2; have h3 := hf w h1 h2; unfold upv; repeat' split; all_goals omega)
          · rw [l_forecastOf_25, if_neg c11, if_neg c20, if_neg c22, if_neg c24]
            exact ih (((v 42 (l_forecastOf_39 v (((v 2 0) - 0).toNat + 1) (-1) 0)) + (v 13 (v kr k))) + 1) (k + 1) (upv (upv v 42 (l_forecastOf_39 v (((v 2 0) - 0).toNat + 1) (-1) 0) ((((v 42 (l_forecastOf_39 v (((v 2 0) - 0).toNat + 1) (-1) 0)) + (v 13 (v kr k))) + 1) + 2)) 43 (l_forecastOf_39 v (((v 2 0) - 0).toNat + 1) (-1) 0) (v 12 (v kr k))) ((hI.up 42 (l_forecastOf_39 v (((v 2 0) - 0).toNat + 1) (-1) 0) ((((v 42 (l_forecastOf_39 v (((v 2 0) - 0).toNat + 1) (-1) 0)) + (v 13 (v kr k))) + 1) + 2) (by show 0 ≤ ((((v 42 (l_forecastOf_39 v (((v 2 0) - 0).toNat + 1) (-1) 0)) + (v 13 (v kr k))) + 1) + 2) ∧ ((((v 42 (l_forecastOf_39 v (((v 2 0) - 0).toNat + 1) (-1) 0)) + (v 13 (v kr k))) + 1) + 2) ≤ T + 300; omega)).up 43 (l_forecastOf_39 v (((v 2 0) - 0).toNat + 1) (-1) 0) (v 12 (v kr k)) (by show -1 ≤ (v 12 (v kr k)) ∧ (v 12 (v kr k)) ≤ 3; omega)) (by show 0 ≤ (k + 1) ∧ (k + 1) ≤ 1000; omega) (by show 0 ≤ (((v 42 (l_forecastOf_39 v (((v 2 0) - 0).toNat + 1) (-1) 0)) + (v 13 (v kr k))) + 1) ∧ (((v 42 (l_forecastOf_39 v (((v 2 0) - 0).toNat + 1) (-1) 0)) + (v 13 (v kr k))) + 1) ≤ T + 300; omega) (by exact ht) (by intro w h1 h2; have h3 := hf w h1 h2; unfold upv; repeat' split; all_goals omega)
def f_forecastOf (kr : Nat) (v : Vw) : Int × Vw :=
  (l_forecastOf_25 kr (((v 7 0) - 0).toNat + 1) 0 0 (l_forecastOf_4 (((v 2 0) - 0).toNat + 1) 0 v))
theorem s_X11_forecastOf {X : Cx} {σ : Hp} {m0 : Nat} {v : Vw} {T E : Int} {kr : Nat} (hG : GM σ m0) (hI : IM v T E) (hk : kr = 39 ∨ kr = 40) (ht : HasF v) : Ct X m_X11_forecastOf 2 [va_rf (some m0), va_rf (some (m0 + (kr - 11)))] (Hm σ m0 v) (.inl (some (.int (i32 (f_forecastOf kr v).1)))) (Hm σ m0 (f_forecastOf kr v).2) := by
  have hT := hI.1
  refine Ct.of (by decide +kernel) rfl (Nat.le_of_ble_eq_true rfl) (by simp [Value.category, va_rf]) ?_
  refine Ei.const dX11_forecastOf_0 ?_
  refine Ev.istore_n (i := 2) dX11_forecastOf_1 rfl (by decide) ?_
  refine Ei.const dX11_forecastOf_2 ?_
  refine Ev.istore_n (i := 3) dX11_forecastOf_3 rfl (by decide) ?_
  refine Ev.fgt (ls' := [some (va_rf (some m0)), some (va_rf (some (m0 + (kr - 11)))), some (.int (i32 0)), some (.int (i32 0)), none, none, none]) ⟨rfl, ⟨rfl, ⟨rfl, ⟨rfl, trivial⟩⟩⟩⟩ ?_
  refine s_l_forecastOf_4 hG  (((v 2 0) - 0).toNat + 1) 0 v hI (by show 0 ≤ 0 ∧ 0 ≤ 100; omega) (by show ((v 2 0) - 0).toNat < (((v 2 0) - 0).toNat + 1); omega) ?_
  have hJ25 := i_l_forecastOf_4  (((v 2 0) - 0).toNat + 1) 0 v hI (by show 0 ≤ 0 ∧ 0 ≤ 100; omega)
  refine Ei.const dX11_forecastOf_23 ?_
  refine Ev.istore_n (i := 3) dX11_forecastOf_24 rfl (by decide) ?_
  have q26 : (l_forecastOf_4 (((v 2 0) - 0).toNat + 1) 0 v) 7 0 = v 7 0 := (fr_l_forecastOf_4 (((v 2 0) - 0).toNat + 1) 0 v 7 0 (by decide)).trans rfl
  refine Ev.fgt (ls' := [some (va_rf (some m0)), some (va_rf (some (m0 + (kr - 11)))), some (.int (i32 0)), some (.int (i32 0)), none, none, none]) ⟨rfl, ⟨rfl, ⟨rfl, ⟨rfl, trivial⟩⟩⟩⟩ ?_
  rw [f_forecastOf]
  exact s_l_forecastOf_25 hG hk (((v 7 0) - 0).toNat + 1) 0 0 (l_forecastOf_4 (((v 2 0) - 0).toNat + 1) 0 v) hJ25 (by show 0 ≤ 0 ∧ 0 ≤ 1000; omega) (by show 0 ≤ 0 ∧ 0 ≤ T + 300; omega) (by obtain ⟨w, h1, h2, h3⟩ := ht; exact ⟨w, h1, by rw [fr_l_forecastOf_4 _ _ _ _ _ (by decide)]; exact h2, by rw [fr_l_forecastOf_4 _ _ _ _ _ (by decide)]; exact h3⟩) (by intro w h1 h2; rw [fr_l_forecastOf_4 _ _ _ _ _ (by decide)] at h2; have h3 := up_l_forecastOf_4 ((v 2 0 - 0).toNat + 1) 0 v hI (by omega) (by omega) w (by omega) h2; omega) (by show (((l_forecastOf_4 (((v 2 0) - 0).toNat + 1) 0 v) 7 0) - 0).toNat < (((v 7 0) - 0).toNat + 1); omega)
theorem i_forecastOf {v : Vw} {T E : Int} {kr : Nat} (hI : IM v T E) (hk : kr = 39 ∨ kr = 40) (ht : HasF v) : IM (f_forecastOf kr v).2 T (E) ∧ (0 ≤ (f_forecastOf kr v).1 ∧ (f_forecastOf kr v).1 ≤ T + 300) := by
  have hT := hI.1
  have hJ25 := i_l_forecastOf_4  (((v 2 0) - 0).toNat + 1) 0 v hI (by show 0 ≤ 0 ∧ 0 ≤ 100; omega)
  have q26 : (l_forecastOf_4 (((v 2 0) - 0).toNat + 1) 0 v) 7 0 = v 7 0 := (fr_l_forecastOf_4 (((v 2 0) - 0).toNat + 1) 0 v 7 0 (by decide)).trans rfl
  rw [f_forecastOf]
  exact i_l_forecastOf_25 hk (((v 7 0) - 0).toNat + 1) 0 0 (l_forecastOf_4 (((v 2 0) - 0).toNat + 1) 0 v) hJ25 (by show 0 ≤ 0 ∧ 0 ≤ 1000; omega) (by show 0 ≤ 0 ∧ 0 ≤ T + 300; omega) (by obtain ⟨w, h1, h2, h3⟩ := ht; exact ⟨w, h1, by rw [fr_l_forecastOf_4 _ _ _ _ _ (by decide)]; exact h2, by rw [fr_l_forecastOf_4 _ _ _ _ _ (by decide)]; exact h3⟩) (by intro w h1 h2; rw [fr_l_forecastOf_4 _ _ _ _ _ (by decide)] at h2; have h3 := up_l_forecastOf_4 ((v 2 0 - 0).toNat + 1) 0 v hI (by omega) (by omega) w (by omega) h2; omega)
theorem fr_forecastOf {kr : Nat} {v : Vw} (fk : Nat) (fi : Int) (hk : fk ≠ 42 ∧ fk ≠ 43) : (f_forecastOf kr v).2 fk fi = v fk fi := by
  rw [f_forecastOf]
  exact (fr_l_forecastOf_25 (((v 7 0) - 0).toNat + 1) 0 0 (l_forecastOf_4 (((v 2 0) - 0).toNat + 1) 0 v) fk fi (by omega)).trans ((fr_l_forecastOf_4 (((v 2 0) - 0).toNat + 1) 0 v fk fi (by omega)).trans rfl)
def l_canForecast_4 (v : Vw) : Nat → Int → Int → Int
  | 0, has, w => has
  | n + 1, has, w =>
    if (v 2 0) ≤ w then
      has
    else
      if has = 0 then
        if (v 20 w) = 0 then
          (l_canForecast_4 v n 1 (w + 1))
        else
          (l_canForecast_4 v n 0 (w + 1))
      else
        (l_canForecast_4 v n 1 (w + 1))
theorem s_l_canForecast_4 {X : Cx} {σ : Hp} {m0 : Nat} {T E : Int} {oc : Rs} {τ : Hp} (hG : GM σ m0) {v : Vw} (hI : IM v T E) : ∀ (n : Nat) (has w : Int) (hw : 0 ≤ w ∧ w ≤ 100) (hh : 0 ≤ has ∧ has ≤ 1) (hm : (v 2 0 - w).toNat < n), Ev X m_X11_canForecast 1 37 [some (va_rf (some m0)), some (.int (i32 (l_canForecast_4 v n has w))), none] [] (Hm σ m0 v) oc τ → Ev X m_X11_canForecast 1 4 [some (va_rf (some m0)), some (.int (i32 has)), some (.int (i32 w))] [] (Hm σ m0 v) oc τ := by
  intro n
  induction n with
  | zero =>
    intro has w hw hh hm K
    exact absurd hm (Nat.not_lt_zero _)
  | succ n ih =>
    intro has w hw hh hm K
    have hT := hI.1
    have u2 : 0 ≤ v 2 0 ∧ v 2 0 ≤ 8 := hI.2 2 0
    refine Ev.iload_n (i := 2) dX11_canForecast_4 rfl rfl ?_
    refine Ev.aload_n (i := 0) dX11_canForecast_5 rfl rfl ?_
    refine Ex.gS (k := 2) (v 2 0) rfl hG (by decide) (tb6 (i := 212) rfl) rfl rfl dX11_canForecast_6 ?_
    refine Ei.icmp_ge (tgt := 37) dX11_canForecast_9 (by decide) ⟨by omega, by omega⟩ ⟨by omega, by omega⟩ (fun c1 => ?_) (fun c1 => ?_)
    · rw [l_canForecast_4, if_pos c1] at K
      exact Ev.fgt (ls' := [some (va_rf (some m0)), some (.int (i32 has)), none]) ⟨rfl, ⟨rfl, trivial⟩⟩ K
    · refine Ev.iload_n (i := 1) dX11_canForecast_12 rfl rfl ?_
      refine Ex.if_ne (tgt := 25) dX11_canForecast_13 (by decide) ⟨by omega, by omega⟩ (fun c2 => ?_) (fun c2 => ?_)
      · refine Ev.aload_n (i := 0) dX11_canForecast_16 rfl rfl ?_
        refine Em.gA (k := 20) hG (by decide) (by decide) (tb6 (i := 230) rfl) rfl rfl dX11_canForecast_17 ?_
        refine Ev.iload_n (i := 2) dX11_canForecast_20 rfl rfl ?_
        have q3 : 0 ≤ v 20 w ∧ v 20 w ≤ 1 := hI.2 20 w
        refine Ex.zald (k := 20) (v 20 w) rfl hG (by decide) (by decide) rfl (by omega) (by show _ < ((8 : Nat) : Int); omega) (by decide) dX11_canForecast_21 ?_
        refine Ex.if_ne (tgt := 29) dX11_canForecast_22 (by decide) ⟨by omega, by omega⟩ (fun c4 => ?_) (fun c4 => ?_)
        · refine Ei.const dX11_canForecast_25 ?_
          refine Ev.goto (tgt := 30) dX11_canForecast_26 (by decide) ?_
          refine Ev.istore_n (i := 1) dX11_canForecast_30 rfl (by decide) ?_
          refine Ei.inc dX11_canForecast_31 rfl (by decide) ?_
          refine Ev.goto (tgt := 4) dX11_canForecast_34 (by decide) ?_
          rw [l_canForecast_4, if_neg c1, if_pos c2, if_pos c4] at K
          exact Ev.fgt (ls' := [some (va_rf (some m0)), some (.int (i32 1)), some (.int (i32 (w + 1)))]) ⟨rfl, ⟨rfl, ⟨rfl, trivial⟩⟩⟩ (ih 1 (w + 1)  (by show 0 ≤ (w + 1) ∧ (w + 1) ≤ 100; omega) (by show 0 ≤ 1 ∧ 1 ≤ 1; omega) (by show ((v 2 0) - (w + 1)).toNat < n; omega) K)
        · refine Ei.const dX11_canForecast_29 ?_
          refine Ev.istore_n (i := 1) dX11_canForecast_30 rfl (by decide) ?_
          refine Ei.inc dX11_canForecast_31 rfl (by decide) ?_
          refine Ev.goto (tgt := 4) dX11_canForecast_34 (by decide) ?_
          rw [l_canForecast_4, if_neg c1, if_pos c2, if_neg c4] at K
          exact Ev.fgt (ls' := [some (va_rf (some m0)), some (.int (i32 0)), some (.int (i32 (w + 1)))]) ⟨rfl, ⟨rfl, ⟨rfl, trivial⟩⟩⟩ (ih 0 (w + 1)  (by show 0 ≤ (w + 1) ∧ (w + 1) ≤ 100; omega) (by show 0 ≤ 0 ∧ 0 ≤ 1; omega) (by show ((v 2 0) - (w + 1)).toNat < n; omega) K)
      · refine Ei.const dX11_canForecast_25 ?_
        refine Ev.goto (tgt := 30) dX11_canForecast_26 (by decide) ?_
        refine Ev.istore_n (i := 1) dX11_canForecast_30 rfl (by decide) ?_
        refine Ei.inc dX11_canForecast_31 rfl (by decide) ?_
        refine Ev.goto (tgt := 4) dX11_canForecast_34 (by decide) ?_
        rw [l_canForecast_4, if_neg c1, if_neg c2] at K
        exact Ev.fgt (ls' := [some (va_rf (some m0)), some (.int (i32 1)), some (.int (i32 (w + 1)))]) ⟨rfl, ⟨rfl, ⟨rfl, trivial⟩⟩⟩ (ih 1 (w + 1)  (by show 0 ≤ (w + 1) ∧ (w + 1) ≤ 100; omega) (by show 0 ≤ 1 ∧ 1 ≤ 1; omega) (by show ((v 2 0) - (w + 1)).toNat < n; omega) K)
theorem r_l_canForecast_4 {v : Vw} : ∀ (n : Nat) (has w : Int), 0 ≤ w → (0 ≤ has ∧ has ≤ 1) → (v 2 0 - w).toNat < n → (0 ≤ l_canForecast_4 v n has w ∧ l_canForecast_4 v n has w ≤ 1) ∧ (¬ l_canForecast_4 v n has w = 0 → ¬ has = 0 ∨ HasG v w) := by
  intro n
  induction n with
  | zero => exact fun _ _ _ _ h => absurd h (Nat.not_lt_zero _)
  | succ n ih =>
    intro has w hw hh hm
    rw [l_canForecast_4]
    have up : HasG v (w + 1) → HasG v w := fun ⟨a, h1, h2, h3⟩ => ⟨a, by omega, h2, h3⟩
    split
    · exact ⟨hh, fun h => Or.inl h⟩
    · rename_i hc
      split
      · split
        · rename_i h1 h2
          refine ⟨(ih 1 (w + 1) (by omega) (by omega) (by omega)).1, fun _ => Or.inr ⟨w, by omega, by omega, h2⟩⟩
        · rename_i h1 h2
          have g := ih 0 (w + 1) (by omega) (by omega) (by omega)
          exact ⟨g.1, fun h => (g.2 h).elim (fun h => absurd rfl h) (fun h => Or.inr (up h))⟩
      · rename_i h1
        exact ⟨(ih 1 (w + 1) (by omega) (by omega) (by omega)).1, fun _ => Or.inl h1⟩
def f_canForecast (v : Vw) : Int × Vw :=
  if (l_canForecast_4 v (((v 2 0) - 0).toNat + 1) 0 0) = 0 then
    (0, (upv v 0 0 1))
  else
    if (v 7 0) ≤ 0 then
      (0, (upv v 0 0 1))
    else
      (1, (upv v 0 0 0))
theorem s_X11_canForecast {X : Cx} {σ : Hp} {m0 : Nat} {v : Vw} {T E : Int} (hG : GM σ m0) (hI : IM v T E) : Ct X m_X11_canForecast 1 [va_rf (some m0)] (Hm σ m0 v) (.inl (some (.int (i32 (f_canForecast v).1)))) (Hm σ m0 (f_canForecast v).2) := by
  have hT := hI.1
  refine Ct.of (by decide +kernel) rfl (Nat.le_of_ble_eq_true rfl) (by simp [Value.category, va_rf]) ?_
  refine Ei.const dX11_canForecast_0 ?_
  refine Ev.istore_n (i := 1) dX11_canForecast_1 rfl (by decide) ?_
  refine Ei.const dX11_canForecast_2 ?_
  refine Ev.istore_n (i := 2) dX11_canForecast_3 rfl (by decide) ?_
  refine Ev.fgt (ls' := [some (va_rf (some m0)), some (.int (i32 0)), some (.int (i32 0))]) ⟨rfl, ⟨rfl, ⟨rfl, trivial⟩⟩⟩ ?_
  refine s_l_canForecast_4 hG hI  (((v 2 0) - 0).toNat + 1) 0 0 (by show 0 ≤ 0 ∧ 0 ≤ 100; omega) (by show 0 ≤ 0 ∧ 0 ≤ 1; omega) (by show ((v 2 0) - 0).toNat < (((v 2 0) - 0).toNat + 1); omega) ?_
  have q5 := (r_l_canForecast_4 (v := v) (((v 2 0) - 0).toNat + 1) 0 0 (by omega) (by omega) (by omega)).1
  refine Ev.aload_n (i := 0) dX11_canForecast_37 rfl rfl ?_
  refine Ev.iload_n (i := 1) dX11_canForecast_38 rfl rfl ?_
  refine Ei.if_eq (tgt := 53) dX11_canForecast_39 (by decide) ⟨by omega, by omega⟩ (fun c6 => ?_) (fun c6 => ?_)
  · refine Ei.const dX11_canForecast_53 ?_
    refine Em.pS (k := 0) hG (by decide) (tb6 (i := 210) rfl) rfl rfl rfl rfl dX11_canForecast_54 ?_
    refine Ev.aload_n (i := 0) dX11_canForecast_57 rfl rfl ?_
    refine Ex.gS (k := 0) (1) rfl hG (by decide) (tb6 (i := 210) rfl) rfl rfl dX11_canForecast_58 ?_
    refine Ei.if_ne_t (tgt := 68) dX11_canForecast_61 (by decide) ⟨by omega, by omega⟩ (by omega) ?_
    refine Ei.const dX11_canForecast_68 ?_
    exact Ev.iretE rfl (nar_b (by omega)) dX11_canForecast_69 (by rw [f_canForecast, if_pos c6]; try rfl) (by first | rfl | (rw [f_canForecast, if_pos c6]; try rfl))
  · refine Ev.aload_n (i := 0) dX11_canForecast_42 rfl rfl ?_
    have q7 : 0 ≤ v 7 0 ∧ v 7 0 ≤ 6 := hI.2 7 0
    refine Ex.gS (k := 7) (v 7 0) rfl hG (by decide) (tb6 (i := 217) rfl) rfl rfl dX11_canForecast_43 ?_
    refine Ei.if_le (tgt := 53) dX11_canForecast_46 (by decide) ⟨by omega, by omega⟩ (fun c8 => ?_) (fun c8 => ?_)
    · refine Ei.const dX11_canForecast_53 ?_
      refine Em.pS (k := 0) hG (by decide) (tb6 (i := 210) rfl) rfl rfl rfl rfl dX11_canForecast_54 ?_
      refine Ev.aload_n (i := 0) dX11_canForecast_57 rfl rfl ?_
      refine Ex.gS (k := 0) (1) rfl hG (by decide) (tb6 (i := 210) rfl) rfl rfl dX11_canForecast_58 ?_
      refine Ei.if_ne_t (tgt := 68) dX11_canForecast_61 (by decide) ⟨by omega, by omega⟩ (by omega) ?_
      refine Ei.const dX11_canForecast_68 ?_
      exact Ev.iretE rfl (nar_b (by omega)) dX11_canForecast_69 (by rw [f_canForecast, if_neg c6, if_pos c8]; try rfl) (by first | rfl | (rw [f_canForecast, if_neg c6, if_pos c8]; try rfl))
    · refine Ei.const dX11_canForecast_49 ?_
      refine Ev.goto (tgt := 54) dX11_canForecast_50 (by decide) ?_
      refine Em.pS (k := 0) hG (by decide) (tb6 (i := 210) rfl) rfl rfl rfl rfl dX11_canForecast_54 ?_
      refine Ev.aload_n (i := 0) dX11_canForecast_57 rfl rfl ?_
      refine Ex.gS (k := 0) (0) rfl hG (by decide) (tb6 (i := 210) rfl) rfl rfl dX11_canForecast_58 ?_
      refine Ei.if_ne_f (tgt := 68) dX11_canForecast_61 (by decide) ⟨by omega, by omega⟩ (fun h => h (by omega)) ?_
      refine Ei.const dX11_canForecast_64 ?_
      refine Ev.goto (tgt := 69) dX11_canForecast_65 (by decide) ?_
      exact Ev.iretE rfl (nar_b (by omega)) dX11_canForecast_69 (by rw [f_canForecast, if_neg c6, if_neg c8]; try rfl) (by first | rfl | (rw [f_canForecast, if_neg c6, if_neg c8]; try rfl))
theorem i_canForecast {v : Vw} {T E : Int} (hI : IM v T E) : IM (f_canForecast v).2 T (E) := by
  have hT := hI.1
  have q5 := (r_l_canForecast_4 (v := v) (((v 2 0) - 0).toNat + 1) 0 0 (by omega) (by omega) (by omega)).1
  by_cases c6 : (l_canForecast_4 v (((v 2 0) - 0).toNat + 1) 0 0) = 0
  · rw [f_canForecast, if_pos c6]
    exact (hI.up 0 0 1 (by show 0 ≤ 1 ∧ 1 ≤ 4; omega))
  · have q7 : 0 ≤ v 7 0 ∧ v 7 0 ≤ 6 := hI.2 7 0
    by_cases c8 : (v 7 0) ≤ 0
    · rw [f_canForecast, if_neg c6, if_pos c8]
      exact (hI.up 0 0 1 (by show 0 ≤ 1 ∧ 1 ≤ 4; omega))
    · rw [f_canForecast, if_neg c6, if_neg c8]
      exact (hI.up 0 0 0 (by show 0 ≤ 0 ∧ 0 ≤ 4; omega))
theorem fr_canForecast {v : Vw} (fk : Nat) (fi : Int) (hk : fk ≠ 0) : (f_canForecast v).2 fk fi = v fk fi := by
  by_cases c6 : (l_canForecast_4 v (((v 2 0) - 0).toNat + 1) 0 0) = 0
  · rw [f_canForecast, if_pos c6]
    exact ((upv_nk (by omega)).trans rfl)
  · by_cases c8 : (v 7 0) ≤ 0
    · rw [f_canForecast, if_neg c6, if_pos c8]
      exact ((upv_nk (by omega)).trans rfl)
    · rw [f_canForecast, if_neg c6, if_neg c8]
      exact ((upv_nk (by omega)).trans rfl)
theorem c_canForecast (v : Vw) : (f_canForecast v).1 = 0 ∨ ((f_canForecast v).1 = 1 ∧ 0 < v 7 0) := by
  unfold f_canForecast
  repeat' split
  all_goals (first | exact Or.inl rfl | (refine Or.inr ⟨rfl, ?_⟩; omega))
theorem h_canForecast (v : Vw) (h : ¬ (f_canForecast v).1 = 0) : HasF (f_canForecast v).2 := by
  refine HasF_fr (fr_canForecast 2 0 (by decide)) (fun i => fr_canForecast 20 i (by decide)) ?_
  have g := (r_l_canForecast_4 (v := v) ((v 2 0 - 0).toNat + 1) 0 0 (by omega) (by omega) (by omega)).2
  unfold f_canForecast at h
  by_cases e : l_canForecast_4 v ((v 2 0 - 0).toNat + 1) 0 0 = 0
  · rw [if_pos e] at h
    exact absurd rfl h
  · exact (g e).elim (fun h => absurd rfl h) id
def f_forecast (v : Vw) : Int × Vw :=
  if (f_canForecast  v).1 = 0 then
    (0, (f_canForecast  v).2)
  else
    ((f_forecastOf 39 ((f_canForecast  v).2)).1, (f_forecastOf 39 ((f_canForecast  v).2)).2)
theorem s_X11_forecast {X : Cx} {σ : Hp} {m0 : Nat} {v : Vw} {T E : Int} (hG : GM σ m0) (hI : IM v T E) : Ct X m_X11_forecast 3 [va_rf (some m0)] (Hm σ m0 v) (.inl (some (.int (i32 (f_forecast v).1)))) (Hm σ m0 (f_forecast v).2) := by
  have hT := hI.1
  refine Ct.of (by decide +kernel) rfl (Nat.le_of_ble_eq_true rfl) (by simp [Value.category, va_rf]) ?_
  refine Ev.aload_n (i := 0) dX11_forecast_0 rfl rfl ?_
  have q1 : 0 ≤ v 7 0 ∧ v 7 0 ≤ 6 := hI.2 7 0
  refine Em.cv1 (As := []) hG k_X11_canForecast (tb7 (i := 201) rfl) ki_X11_canForecast kv_X11_canForecast dX11_forecast_1 rfl rfl (Nat.le_of_ble_eq_true rfl) (by decide) (s_X11_canForecast  hG hI ) ?_
  have hJ2 := (i_canForecast  hI )
  have q3 : (f_canForecast  v).1 = 0 ∨ ((f_canForecast  v).1 = 1 ∧ 0 < (v 7 0)) := c_canForecast v
  have hcf : ¬ (f_canForecast  v).1 = 0 → HasF (f_canForecast  v).2 := h_canForecast v
  have q5 : 0 ≤ (v 7 0) ∧ (v 7 0) ≤ 6 := hI.2 7 0
  refine Ei.if_eq (tgt := 18) dX11_forecast_4 (by decide) ⟨by omega, by omega⟩ (fun c6 => ?_) (fun c6 => ?_)
  · refine Ei.const dX11_forecast_18 ?_
    exact Ev.iretE rfl nar_i dX11_forecast_19 (by rw [f_forecast, if_pos c6]; try rfl) (by first | rfl | (rw [f_forecast, if_pos c6]; try rfl))
  · refine Ev.aload_n (i := 0) dX11_forecast_7 rfl rfl ?_
    refine Ev.aload_n (i := 0) dX11_forecast_8 rfl rfl ?_
    refine Em.gA (k := 39) hG (by decide) (by decide) (tb7 (i := 9) rfl) rfl rfl dX11_forecast_9 ?_
    refine Em.cv1 (As := [_]) hG k_X11_forecastOf (tb7 (i := 205) rfl) ki_X11_forecastOf kv_X11_forecastOf dX11_forecast_12 rfl rfl (Nat.le_of_ble_eq_true rfl) (by decide) (s_X11_forecastOf (kr := 39) hG hJ2 (by show 39 = 39 ∨ 39 = 40; omega) (by first | exact ht | exact hcf (by assumption) | exact hff (hcf (by assumption)))) ?_
    have hJ7 := (i_forecastOf (kr := 39) hJ2 (by show 39 = 39 ∨ 39 = 40; omega) (by first | exact ht | exact hcf (by assumption) | exact hff (hcf (by assumption)))).1
    have q8 := (i_forecastOf (kr := 39) hJ2 (by show 39 = 39 ∨ 39 = 40; omega) (by first | exact ht | exact hcf (by assumption) | exact hff (hcf (by assumption)))).2
    have hff : HasF ((f_canForecast  v).2) → HasF (f_forecastOf 39 ((f_canForecast  v).2)).2 := fun h => HasF_fr (fr_forecastOf 2 0 (by decide)) (fun i => fr_forecastOf 20 i (by decide)) h
    refine Ev.goto (tgt := 19) dX11_forecast_15 (by decide) ?_
    exact Ev.iretE rfl nar_i dX11_forecast_19 (by rw [f_forecast, if_neg c6]; try rfl) (by first | rfl | (rw [f_forecast, if_neg c6]; try rfl))
theorem i_forecast {v : Vw} {T E : Int} (hI : IM v T E) : IM (f_forecast v).2 T (E) := by
  have hT := hI.1
  have q1 : 0 ≤ v 7 0 ∧ v 7 0 ≤ 6 := hI.2 7 0
  have hJ2 := (i_canForecast  hI )
  have q3 : (f_canForecast  v).1 = 0 ∨ ((f_canForecast  v).1 = 1 ∧ 0 < (v 7 0)) := c_canForecast v
  have hcf : ¬ (f_canForecast  v).1 = 0 → HasF (f_canForecast  v).2 := h_canForecast v
  have q5 : 0 ≤ (v 7 0) ∧ (v 7 0) ≤ 6 := hI.2 7 0
  by_cases c6 : (f_canForecast  v).1 = 0
  · rw [f_forecast, if_pos c6]
    exact hJ2
  · have hJ7 := (i_forecastOf (kr := 39) hJ2 (by show 39 = 39 ∨ 39 = 40; omega) (by first | exact ht | exact hcf (by assumption) | exact hff (hcf (by assumption)))).1
    have q8 := (i_forecastOf (kr := 39) hJ2 (by show 39 = 39 ∨ 39 = 40; omega) (by first | exact ht | exact hcf (by assumption) | exact hff (hcf (by assumption)))).2
    have hff : HasF ((f_canForecast  v).2) → HasF (f_forecastOf 39 ((f_canForecast  v).2)).2 := fun h => HasF_fr (fr_forecastOf 2 0 (by decide)) (fun i => fr_forecastOf 20 i (by decide)) h
    rw [f_forecast, if_neg c6]
    exact hJ7
theorem fr_forecast {v : Vw} (fk : Nat) (fi : Int) (hk : fk ≠ 0 ∧ fk ≠ 42 ∧ fk ≠ 43) : (f_forecast v).2 fk fi = v fk fi := by
  by_cases c6 : (f_canForecast  v).1 = 0
  · rw [f_forecast, if_pos c6]
    exact ((fr_canForecast (v := v) fk fi (by omega)).trans rfl)
  · rw [f_forecast, if_neg c6]
    exact ((fr_forecastOf (kr := 39) (v := ((f_canForecast  v).2)) fk fi (by omega)).trans ((fr_canForecast (v := v) fk fi (by omega)).trans rfl))
def f_swaps (a b : Int) (v : Vw) : Vw :=
  (upv (upv v 40 a (v 40 b)) 40 b (v 40 a))
theorem s_X11_swaps {X : Cx} {σ : Hp} {m0 : Nat} {v : Vw} {T E : Int} {a b : Int} (hG : GM σ m0) (hI : IM v T E) (ha : 0 ≤ a ∧ a ≤ 5) (hb : 0 ≤ b ∧ b ≤ 5) : Ct X m_X11_swaps 1 [va_rf (some m0), .int (i32 a), .int (i32 b)] (Hm σ m0 v) (.inl none) (Hm σ m0 (f_swaps a b v)) := by
  have hT := hI.1
  refine Ct.of (by decide +kernel) rfl (Nat.le_of_ble_eq_true rfl) (by simp [Value.category, va_rf]) ?_
  refine Ev.aload_n (i := 0) dX11_swaps_0 rfl rfl ?_
  refine Em.gA (k := 40) hG (by decide) (by decide) (tb7 (i := 10) rfl) rfl rfl dX11_swaps_1 ?_
  refine Ev.iload_n (i := 1) dX11_swaps_4 rfl rfl ?_
  have q1 : 0 ≤ v 40 a ∧ v 40 a ≤ 4 := hI.2 40 a
  refine Ex.iald (k := 40) (v 40 a) rfl hG (by decide) (by decide) rfl (by omega) (by show _ < ((6 : Nat) : Int); omega) (by decide) dX11_swaps_5 ?_
  refine Ev.istore_n (i := 3) dX11_swaps_6 rfl (by decide) ?_
  refine Ev.aload_n (i := 0) dX11_swaps_7 rfl rfl ?_
  refine Em.gA (k := 40) hG (by decide) (by decide) (tb7 (i := 10) rfl) rfl rfl dX11_swaps_8 ?_
  refine Ev.iload_n (i := 1) dX11_swaps_11 rfl rfl ?_
  refine Ev.aload_n (i := 0) dX11_swaps_12 rfl rfl ?_
  refine Em.gA (k := 40) hG (by decide) (by decide) (tb7 (i := 10) rfl) rfl rfl dX11_swaps_13 ?_
  refine Ev.iload_n (i := 2) dX11_swaps_16 rfl rfl ?_
  have q2 : 0 ≤ v 40 b ∧ v 40 b ≤ 4 := hI.2 40 b
  refine Ex.iald (k := 40) (v 40 b) rfl hG (by decide) (by decide) rfl (by omega) (by show _ < ((6 : Nat) : Int); omega) (by decide) dX11_swaps_17 ?_
  refine Em.iast (k := 40) hG (by decide) (by decide) rfl (by omega) (by show _ < ((6 : Nat) : Int); omega) (by decide) dX11_swaps_18 ?_
  refine Ev.aload_n (i := 0) dX11_swaps_19 rfl rfl ?_
  refine Em.gA (k := 40) hG (by decide) (by decide) (tb7 (i := 10) rfl) rfl rfl dX11_swaps_20 ?_
  refine Ev.iload_n (i := 2) dX11_swaps_23 rfl rfl ?_
  refine Ev.iload_n (i := 3) dX11_swaps_24 rfl rfl ?_
  refine Em.iast (k := 40) hG (by decide) (by decide) rfl (by omega) (by show _ < ((6 : Nat) : Int); omega) (by decide) dX11_swaps_25 ?_
  exact Ev.vretE rfl dX11_swaps_26 rfl (by first | rfl | (rw [f_swaps]; try rfl))
theorem i_swaps {v : Vw} {T E : Int} {a b : Int} (hI : IM v T E) (ha : 0 ≤ a ∧ a ≤ 5) (hb : 0 ≤ b ∧ b ≤ 5) : IM (f_swaps a b v) T (E) := by
  have hT := hI.1
  have q1 : 0 ≤ v 40 a ∧ v 40 a ≤ 4 := hI.2 40 a
  have q2 : 0 ≤ v 40 b ∧ v 40 b ≤ 4 := hI.2 40 b
  rw [f_swaps]
  exact ((hI.up 40 a (v 40 b) (by show 0 ≤ (v 40 b) ∧ (v 40 b) ≤ 4; omega)).up 40 b (v 40 a) (by show 0 ≤ (v 40 a) ∧ (v 40 a) ≤ 4; omega))
theorem fr_swaps {a b : Int} {v : Vw} (fk : Nat) (fi : Int) (hk : fk ≠ 40) : (f_swaps a b v) fk fi = v fk fi := by
  rw [f_swaps]
  exact ((upv_nk (by omega)).trans ((upv_nk (by omega)).trans rfl))
def l_turns_7 (v : Vw) : Nat → Int → Int
  | 0, k => k
  | n + 1, k =>
    if k < 0 then
      k
    else
      if (v 40 k) < (v 40 (k + 1)) then
        k
      else
        (l_turns_7 v n (k + (-1)))
theorem s_l_turns_7 {X : Cx} {σ : Hp} {m0 : Nat} {T E : Int} {oc : Rs} {τ : Hp} (hG : GM σ m0) {v : Vw} (hI : IM v T E) : ∀ (n : Nat) (k : Int) (hk : -1 ≤ k ∧ k ≤ 4) (hm : (k + 1).toNat < n), Ev X m_X11_turns 2 34 [some (va_rf (some m0)), some (.int (i32 (l_turns_7 v n k))), none, none, none] [] (Hm σ m0 v) oc τ → Ev X m_X11_turns 2 7 [some (va_rf (some m0)), some (.int (i32 k)), none, none, none] [] (Hm σ m0 v) oc τ := by
  intro n
  induction n with
  | zero =>
    intro k hk hm K
    exact absurd hm (Nat.not_lt_zero _)
  | succ n ih =>
    intro k hk hm K
    have hT := hI.1
    refine Ev.iload_n (i := 1) dX11_turns_7 rfl rfl ?_
    refine Ei.if_lt (tgt := 34) dX11_turns_8 (by decide) ⟨by omega, by omega⟩ (fun c1 => ?_) (fun c1 => ?_)
    · rw [l_turns_7, if_pos c1] at K
      exact Ev.fgt (ls' := [some (va_rf (some m0)), some (.int (i32 k)), none, none, none]) ⟨rfl, ⟨rfl, trivial⟩⟩ K
    · refine Ev.aload_n (i := 0) dX11_turns_11 rfl rfl ?_
      refine Em.gA (k := 40) hG (by decide) (by decide) (tb7 (i := 10) rfl) rfl rfl dX11_turns_12 ?_
      refine Ev.iload_n (i := 1) dX11_turns_15 rfl rfl ?_
      have q2 : 0 ≤ v 40 k ∧ v 40 k ≤ 4 := hI.2 40 k
      refine Ex.iald (k := 40) (v 40 k) rfl hG (by decide) (by decide) rfl (by omega) (by show _ < ((6 : Nat) : Int); omega) (by decide) dX11_turns_16 ?_
      refine Ev.aload_n (i := 0) dX11_turns_17 rfl rfl ?_
      refine Em.gA (k := 40) hG (by decide) (by decide) (tb7 (i := 10) rfl) rfl rfl dX11_turns_18 ?_
      refine Ev.iload_n (i := 1) dX11_turns_21 rfl rfl ?_
      refine Ei.const dX11_turns_22 ?_
      refine Ei.add dX11_turns_23 ?_
      have q3 : 0 ≤ v 40 (k + 1) ∧ v 40 (k + 1) ≤ 4 := hI.2 40 (k + 1)
      refine Ex.iald (k := 40) (v 40 (k + 1)) rfl hG (by decide) (by decide) rfl (by omega) (by show _ < ((6 : Nat) : Int); omega) (by decide) dX11_turns_24 ?_
      refine Ei.icmp_lt (tgt := 34) dX11_turns_25 (by decide) ⟨by omega, by omega⟩ ⟨by omega, by omega⟩ (fun c4 => ?_) (fun c4 => ?_)
      · rw [l_turns_7, if_neg c1, if_pos c4] at K
        exact Ev.fgt (ls' := [some (va_rf (some m0)), some (.int (i32 k)), none, none, none]) ⟨rfl, ⟨rfl, trivial⟩⟩ K
      · refine Ei.inc dX11_turns_28 rfl (by decide) ?_
        refine Ev.goto (tgt := 7) dX11_turns_31 (by decide) ?_
        rw [l_turns_7, if_neg c1, if_neg c4] at K
        exact Ev.fgt (ls' := [some (va_rf (some m0)), some (.int (i32 (k + (-1)))), none, none, none]) ⟨rfl, ⟨rfl, trivial⟩⟩ (ih (k + (-1))  (by show -1 ≤ (k + (-1)) ∧ (k + (-1)) ≤ 4; omega) (by show ((k + (-1)) + 1).toNat < n; omega) K)
theorem r_l_turns_7 {v : Vw} : ∀ (n : Nat) (k : Int), -1 ≤ k → (k + 1).toNat < n → -1 ≤ l_turns_7 v n k ∧ l_turns_7 v n k ≤ k ∧ (0 ≤ l_turns_7 v n k → v 40 (l_turns_7 v n k) < v 40 (l_turns_7 v n k + 1)) := by
  intro n
  induction n with
  | zero => exact fun _ _ h => absurd h (Nat.not_lt_zero _)
  | succ n ih =>
    intro k hk hm
    rw [l_turns_7]
    split
    · exact ⟨by omega, by omega, fun h => by omega⟩
    · split
      · rename_i h1 h2
        exact ⟨by omega, by omega, fun _ => h2⟩
      · rename_i h1 h2
        have g := ih (k + -1) (by omega) (by omega)
        exact ⟨g.1, by omega, g.2.2⟩
def l_turns_47 (k : Int) (v : Vw) : Nat → Int → Int
  | 0, j => j
  | n + 1, j =>
    if (v 40 k) < (v 40 j) then
      j
    else
      (l_turns_47 k v n (j + (-1)))
theorem s_l_turns_47 {X : Cx} {σ : Hp} {m0 : Nat} {T E : Int} {k : Int} {oc : Rs} {τ : Hp} (hG : GM σ m0) {v : Vw} (hI : IM v T E) : ∀ (n : Nat) (j : Int) (hj : k + 1 ≤ j ∧ j ≤ 5) (hk : 0 ≤ k ∧ v 40 k < v 40 (k + 1)) (hm : (j).toNat < n), Ev X m_X11_turns 2 68 [some (va_rf (some m0)), some (.int (i32 k)), some (.int (i32 (l_turns_47 k v n j))), none, none] [] (Hm σ m0 v) oc τ → Ev X m_X11_turns 2 47 [some (va_rf (some m0)), some (.int (i32 k)), some (.int (i32 j)), none, none] [] (Hm σ m0 v) oc τ := by
  intro n
  induction n with
  | zero =>
    intro j hj hk hm K
    exact absurd hm (Nat.not_lt_zero _)
  | succ n ih =>
    intro j hj hk hm K
    have hT := hI.1
    refine Ev.aload_n (i := 0) dX11_turns_47 rfl rfl ?_
    refine Em.gA (k := 40) hG (by decide) (by decide) (tb7 (i := 10) rfl) rfl rfl dX11_turns_48 ?_
    refine Ev.iload_n (i := 2) dX11_turns_51 rfl rfl ?_
    have q5 : 0 ≤ v 40 j ∧ v 40 j ≤ 4 := hI.2 40 j
    refine Ex.iald (k := 40) (v 40 j) rfl hG (by decide) (by decide) rfl (by omega) (by show _ < ((6 : Nat) : Int); omega) (by decide) dX11_turns_52 ?_
    refine Ev.aload_n (i := 0) dX11_turns_53 rfl rfl ?_
    refine Em.gA (k := 40) hG (by decide) (by decide) (tb7 (i := 10) rfl) rfl rfl dX11_turns_54 ?_
    refine Ev.iload_n (i := 1) dX11_turns_57 rfl rfl ?_
    have q6 : 0 ≤ v 40 k ∧ v 40 k ≤ 4 := hI.2 40 k
    refine Ex.iald (k := 40) (v 40 k) rfl hG (by decide) (by decide) rfl (by omega) (by show _ < ((6 : Nat) : Int); omega) (by decide) dX11_turns_58 ?_
    refine Ei.icmp_gt (tgt := 68) dX11_turns_59 (by decide) ⟨by omega, by omega⟩ ⟨by omega, by omega⟩ (fun c7 => ?_) (fun c7 => ?_)
    · rw [l_turns_47, if_pos c7] at K
      exact Ev.fgt (ls' := [some (va_rf (some m0)), some (.int (i32 k)), some (.int (i32 j)), none, none]) ⟨rfl, ⟨rfl, ⟨rfl, trivial⟩⟩⟩ K
    · refine Ei.inc dX11_turns_62 rfl (by decide) ?_
      refine Ev.goto (tgt := 47) dX11_turns_65 (by decide) ?_
      rw [l_turns_47, if_neg c7] at K
      exact Ev.fgt (ls' := [some (va_rf (some m0)), some (.int (i32 k)), some (.int (i32 (j + (-1)))), none, none]) ⟨rfl, ⟨rfl, ⟨rfl, trivial⟩⟩⟩ (ih (j + (-1))  (by have e : ¬ j = k + 1 := (fun e => by subst e; omega); omega) (by show 0 ≤ k ∧ (v 40 k) < (v 40 (k + 1)); omega) (by show ((j + (-1))).toNat < n; omega) K)
theorem r_l_turns_47 {v : Vw} (k : Int) : ∀ (n : Nat) (j : Int), k + 1 ≤ j → (0 ≤ k ∧ v 40 k < v 40 (k + 1)) → j.toNat < n → k + 1 ≤ l_turns_47 k v n j ∧ l_turns_47 k v n j ≤ j ∧ v 40 k < v 40 (l_turns_47 k v n j) := by
  intro n
  induction n with
  | zero => exact fun _ _ _ h => absurd h (Nat.not_lt_zero _)
  | succ n ih =>
    intro j hj hk hm
    rw [l_turns_47]
    split
    · rename_i h1
      exact ⟨hj, by omega, h1⟩
    · rename_i h1
      have e : ¬ j = k + 1 := fun e => by subst e; omega
      have g := ih (j + -1) (by omega) hk (by omega)
      exact ⟨g.1, by omega, g.2.2⟩
def l_turns_86 : Nat → Int → Int → Vw → Int × Vw
  | 0, lo, hi, v => (0, v)
  | n + 1, lo, hi, v =>
    if hi ≤ lo then
      (1, v)
    else
      (l_turns_86 n (lo + 1) (hi + (-1)) (f_swaps lo hi v))
theorem s_l_turns_86 {X : Cx} {σ : Hp} {m0 : Nat} {T E : Int} (hG : GM σ m0) : ∀ (n : Nat) (lo hi : Int) (v : Vw) (hI : IM v T E) (hlo : 0 ≤ lo ∧ lo ≤ 100) (hhi : 0 ≤ hi ∧ hi ≤ 5) (hm : (hi - lo).toNat < n), Ev X m_X11_turns 2 86 [some (va_rf (some m0)), none, none, some (.int (i32 lo)), some (.int (i32 hi))] [] (Hm σ m0 v) (.inl (some (.int (i32 (l_turns_86 n lo hi v).1)))) (Hm σ m0 (l_turns_86 n lo hi v).2) := by
  intro n
  induction n with
  | zero =>
    intro lo hi v hI hlo hhi hm
    exact absurd hm (Nat.not_lt_zero _)
  | succ n ih =>
    intro lo hi v hI hlo hhi hm
    have hT := hI.1
    refine Ev.iload_n (i := 3) dX11_turns_86 rfl rfl ?_
    refine Ev.iload dX11_turns_87 rfl ?_
    refine Ei.icmp_ge (tgt := 108) dX11_turns_89 (by decide) ⟨by omega, by omega⟩ ⟨by omega, by omega⟩ (fun c8 => ?_) (fun c8 => ?_)
    · refine Ei.const dX11_turns_108 ?_
      exact Ev.iretE rfl (nar_b (by omega)) dX11_turns_109 (by rw [l_turns_86, if_pos c8]; try rfl) (by first | rfl | (rw [l_turns_86, if_pos c8]; try rfl))
    · refine Ev.aload_n (i := 0) dX11_turns_92 rfl rfl ?_
      refine Ev.iload_n (i := 3) dX11_turns_93 rfl rfl ?_
      refine Ev.iload dX11_turns_94 rfl ?_
      refine Em.cv0 (As := [_, _]) hG k_X11_swaps (tb7 (i := 226) rfl) ki_X11_swaps kv_X11_swaps dX11_turns_96 rfl rfl (Nat.le_of_ble_eq_true rfl) (by decide) (s_X11_swaps (a := lo) (b := hi) hG hI (by show 0 ≤ lo ∧ lo ≤ 5; omega) (by show 0 ≤ hi ∧ hi ≤ 5; omega)) ?_
      have hJ9 := (i_swaps (a := lo) (b := hi) hI (by show 0 ≤ lo ∧ lo ≤ 5; omega) (by show 0 ≤ hi ∧ hi ≤ 5; omega))
      refine Ei.inc dX11_turns_99 rfl (by decide) ?_
      refine Ei.inc dX11_turns_102 rfl (by decide) ?_
      refine Ev.goto (tgt := 86) dX11_turns_105 (by decide) ?_
      rw [l_turns_86, if_neg c8]
      exact Ev.fgt (ls' := [some (va_rf (some m0)), none, none, some (.int (i32 (lo + 1))), some (.int (i32 (hi + (-1))))]) ⟨rfl, ⟨rfl, ⟨rfl, trivial⟩⟩⟩ (ih (lo + 1) (hi + (-1)) (f_swaps lo hi v) hJ9 (by show 0 ≤ (lo + 1) ∧ (lo + 1) ≤ 100; omega) (by show 0 ≤ (hi + (-1)) ∧ (hi + (-1)) ≤ 5; omega) (by show ((hi + (-1)) - (lo + 1)).toNat < n; omega))
theorem fr_l_turns_86 : ∀ (n : Nat) (lo hi : Int) (v : Vw) (fk : Nat) (fi : Int) (hk : fk ≠ 40), (l_turns_86 n lo hi v).2 fk fi = v fk fi := by
  intro n lo hi v fk fi hk
  induction n generalizing lo hi v with
  | zero => rfl
  | succ n ih =>
    by_cases c8 : hi ≤ lo
    · rw [l_turns_86, if_pos c8]
      try rfl
    · rw [l_turns_86, if_neg c8]
      exact (ih (lo + 1) (hi + (-1)) (f_swaps lo hi v)).trans ((fr_swaps (a := lo) (b := hi) (v := v) fk fi (by omega)).trans rfl)
theorem i_l_turns_86 {T E : Int} : ∀ (n : Nat) (lo hi : Int) (v : Vw) (hI : IM v T E) (hlo : 0 ≤ lo ∧ lo ≤ 100) (hhi : 0 ≤ hi ∧ hi ≤ 5), IM (l_turns_86 n lo hi v).2 T (E) := by
  intro n
  induction n with
  | zero =>
    intro lo hi v hI hlo hhi
    have hT := hI.1
    exact hI
  | succ n ih =>
    intro lo hi v hI hlo hhi
    have hT := hI.1
    by_cases c8 : hi ≤ lo
    · rw [l_turns_86, if_pos c8]
      exact hI
    · have hJ9 := (i_swaps (a := lo) (b := hi) hI (by show 0 ≤ lo ∧ lo ≤ 5; omega) (by show 0 ≤ hi ∧ hi ≤ 5; omega))
      rw [l_turns_86, if_neg c8]
      exact ih (lo + 1) (hi + (-1)) (f_swaps lo hi v) hJ9 (by show 0 ≤ (lo + 1) ∧ (lo + 1) ≤ 100; omega) (by show 0 ≤ (hi + (-1)) ∧ (hi + (-1)) ≤ 5; omega)
theorem rb_l_turns_86 : ∀ (n : Nat) (lo hi : Int) (v : Vw), 0 ≤ (l_turns_86 n lo hi v).1 ∧ (l_turns_86 n lo hi v).1 ≤ 1 := by
  intro n
  induction n with
  | zero => exact fun _ _ _ => ⟨Int.le_refl 0, Int.zero_le_ofNat 1⟩
  | succ n ih =>
    intro lo hi v
    rw [l_turns_86]
    split
    · exact ⟨Int.zero_le_ofNat 1, Int.le_refl 1⟩
    · exact ih _ _ _
def f_turns (v : Vw) : Int × Vw :=
  if 0 ≤ (l_turns_7 v ((((v 7 0) - 2) + 1).toNat + 1) ((v 7 0) - 2)) then
    (l_turns_86 ((((v 7 0) - 1) - ((l_turns_7 v ((((v 7 0) - 2) + 1).toNat + 1) ((v 7 0) - 2)) + 1)).toNat + 1) ((l_turns_7 v ((((v 7 0) - 2) + 1).toNat + 1) ((v 7 0) - 2)) + 1) ((v 7 0) - 1) (f_swaps (l_turns_7 v ((((v 7 0) - 2) + 1).toNat + 1) ((v 7 0) - 2)) (l_turns_47 (l_turns_7 v ((((v 7 0) - 2) + 1).toNat + 1) ((v 7 0) - 2)) v ((((v 7 0) - 1)).toNat + 1) ((v 7 0) - 1)) v))
  else
    (0, v)
theorem s_X11_turns {X : Cx} {σ : Hp} {m0 : Nat} {v : Vw} {T E : Int} (hG : GM σ m0) (hI : IM v T E) (hq : 1 ≤ v 7 0) : Ct X m_X11_turns 2 [va_rf (some m0)] (Hm σ m0 v) (.inl (some (.int (i32 (f_turns v).1)))) (Hm σ m0 (f_turns v).2) := by
  have hT := hI.1
  refine Ct.of (by decide +kernel) rfl (Nat.le_of_ble_eq_true rfl) (by simp [Value.category, va_rf]) ?_
  have u7 : 0 ≤ v 7 0 ∧ v 7 0 ≤ 6 := hI.2 7 0
  refine Ev.aload_n (i := 0) dX11_turns_0 rfl rfl ?_
  refine Ex.gS (k := 7) (v 7 0) rfl hG (by decide) (tb6 (i := 217) rfl) rfl rfl dX11_turns_1 ?_
  refine Ei.const dX11_turns_4 ?_
  refine Ei.sub dX11_turns_5 ?_
  refine Ev.istore_n (i := 1) dX11_turns_6 rfl (by decide) ?_
  refine Ev.fgt (ls' := [some (va_rf (some m0)), some (.int (i32 ((v 7 0) - 2))), none, none, none]) ⟨rfl, ⟨rfl, trivial⟩⟩ ?_
  refine s_l_turns_7 hG hI  ((((v 7 0) - 2) + 1).toNat + 1) ((v 7 0) - 2) (by show -1 ≤ ((v 7 0) - 2) ∧ ((v 7 0) - 2) ≤ 4; omega) (by show (((v 7 0) - 2) + 1).toNat < ((((v 7 0) - 2) + 1).toNat + 1); omega) ?_
  have q10 := r_l_turns_7 (v := v) ((((v 7 0) - 2) + 1).toNat + 1) (v 7 0 - 2) (by omega) (by omega)
  refine Ev.iload_n (i := 1) dX11_turns_34 rfl rfl ?_
  refine Ei.if_ge (tgt := 40) dX11_turns_35 (by decide) ⟨by omega, by omega⟩ (fun c11 => ?_) (fun c11 => ?_)
  · refine Ev.aload_n (i := 0) dX11_turns_40 rfl rfl ?_
    refine Ex.gS (k := 7) (v 7 0) rfl hG (by decide) (tb6 (i := 217) rfl) rfl rfl dX11_turns_41 ?_
    refine Ei.const dX11_turns_44 ?_
    refine Ei.sub dX11_turns_45 ?_
    refine Ev.istore_n (i := 2) dX11_turns_46 rfl (by decide) ?_
    refine Ev.fgt (ls' := [some (va_rf (some m0)), some (.int (i32 (l_turns_7 v ((((v 7 0) - 2) + 1).toNat + 1) ((v 7 0) - 2)))), some (.int (i32 ((v 7 0) - 1))), none, none]) ⟨rfl, ⟨rfl, ⟨rfl, trivial⟩⟩⟩ ?_
    refine s_l_turns_47 hG hI  ((((v 7 0) - 1)).toNat + 1) ((v 7 0) - 1) (by show (l_turns_7 v ((((v 7 0) - 2) + 1).toNat + 1) ((v 7 0) - 2)) + 1 ≤ ((v 7 0) - 1) ∧ ((v 7 0) - 1) ≤ 5; omega) (by show 0 ≤ (l_turns_7 v ((((v 7 0) - 2) + 1).toNat + 1) ((v 7 0) - 2)) ∧ (v 40 (l_turns_7 v ((((v 7 0) - 2) + 1).toNat + 1) ((v 7 0) - 2))) < (v 40 ((l_turns_7 v ((((v 7 0) - 2) + 1).toNat + 1) ((v 7 0) - 2)) + 1)); omega) (by show (((v 7 0) - 1)).toNat < ((((v 7 0) - 1)).toNat + 1); omega) ?_
    have q12 := r_l_turns_47 (v := v) (l_turns_7 v ((((v 7 0) - 2) + 1).toNat + 1) ((v 7 0) - 2)) ((((v 7 0) - 1)).toNat + 1) (v 7 0 - 1) (by omega) (by omega) (by omega)
    refine Ev.aload_n (i := 0) dX11_turns_68 rfl rfl ?_
    refine Ev.iload_n (i := 1) dX11_turns_69 rfl rfl ?_
    refine Ev.iload_n (i := 2) dX11_turns_70 rfl rfl ?_
    refine Em.cv0 (As := [_, _]) hG k_X11_swaps (tb7 (i := 226) rfl) ki_X11_swaps kv_X11_swaps dX11_turns_71 rfl rfl (Nat.le_of_ble_eq_true rfl) (by decide) (s_X11_swaps (a := (l_turns_7 v ((((v 7 0) - 2) + 1).toNat + 1) ((v 7 0) - 2))) (b := (l_turns_47 (l_turns_7 v ((((v 7 0) - 2) + 1).toNat + 1) ((v 7 0) - 2)) v ((((v 7 0) - 1)).toNat + 1) ((v 7 0) - 1))) hG hI (by show 0 ≤ (l_turns_7 v ((((v 7 0) - 2) + 1).toNat + 1) ((v 7 0) - 2)) ∧ (l_turns_7 v ((((v 7 0) - 2) + 1).toNat + 1) ((v 7 0) - 2)) ≤ 5; omega) (by show 0 ≤ (l_turns_47 (l_turns_7 v ((((v 7 0) - 2) + 1).toNat + 1) ((v 7 0) - 2)) v ((((v 7 0) - 1)).toNat + 1) ((v 7 0) - 1)) ∧ (l_turns_47 (l_turns_7 v ((((v 7 0) - 2) + 1).toNat + 1) ((v 7 0) - 2)) v ((((v 7 0) - 1)).toNat + 1) ((v 7 0) - 1)) ≤ 5; omega)) ?_
    have hJ13 := (i_swaps (a := (l_turns_7 v ((((v 7 0) - 2) + 1).toNat + 1) ((v 7 0) - 2))) (b := (l_turns_47 (l_turns_7 v ((((v 7 0) - 2) + 1).toNat + 1) ((v 7 0) - 2)) v ((((v 7 0) - 1)).toNat + 1) ((v 7 0) - 1))) hI (by show 0 ≤ (l_turns_7 v ((((v 7 0) - 2) + 1).toNat + 1) ((v 7 0) - 2)) ∧ (l_turns_7 v ((((v 7 0) - 2) + 1).toNat + 1) ((v 7 0) - 2)) ≤ 5; omega) (by show 0 ≤ (l_turns_47 (l_turns_7 v ((((v 7 0) - 2) + 1).toNat + 1) ((v 7 0) - 2)) v ((((v 7 0) - 1)).toNat + 1) ((v 7 0) - 1)) ∧ (l_turns_47 (l_turns_7 v ((((v 7 0) - 2) + 1).toNat + 1) ((v 7 0) - 2)) v ((((v 7 0) - 1)).toNat + 1) ((v 7 0) - 1)) ≤ 5; omega))
    refine Ev.iload_n (i := 1) dX11_turns_74 rfl rfl ?_
    refine Ei.const dX11_turns_75 ?_
    refine Ei.add dX11_turns_76 ?_
    refine Ev.istore_n (i := 3) dX11_turns_77 rfl (by decide) ?_
    refine Ev.aload_n (i := 0) dX11_turns_78 rfl rfl ?_
    have q14 : (f_swaps (l_turns_7 v ((((v 7 0) - 2) + 1).toNat + 1) ((v 7 0) - 2)) (l_turns_47 (l_turns_7 v ((((v 7 0) - 2) + 1).toNat + 1) ((v 7 0) - 2)) v ((((v 7 0) - 1)).toNat + 1) ((v 7 0) - 1)) v) 7 0 = v 7 0 := (fr_swaps (a := (l_turns_7 v ((((v 7 0) - 2) + 1).toNat + 1) ((v 7 0) - 2))) (b := (l_turns_47 (l_turns_7 v ((((v 7 0) - 2) + 1).toNat + 1) ((v 7 0) - 2)) v ((((v 7 0) - 1)).toNat + 1) ((v 7 0) - 1))) (v := v) 7 0 (by decide)).trans rfl
    refine Ex.gS (k := 7) (v 7 0) q14 hG (by decide) (tb6 (i := 217) rfl) rfl rfl dX11_turns_79 ?_
    refine Ei.const dX11_turns_82 ?_
    refine Ei.sub dX11_turns_83 ?_
    refine Ev.istore dX11_turns_84 (by decide) ?_
    refine Ev.fgt (ls' := [some (va_rf (some m0)), none, none, some (.int (i32 ((l_turns_7 v ((((v 7 0) - 2) + 1).toNat + 1) ((v 7 0) - 2)) + 1))), some (.int (i32 ((v 7 0) - 1)))]) ⟨rfl, ⟨rfl, ⟨rfl, trivial⟩⟩⟩ ?_
    rw [f_turns, if_pos c11]
    exact s_l_turns_86 hG  ((((v 7 0) - 1) - ((l_turns_7 v ((((v 7 0) - 2) + 1).toNat + 1) ((v 7 0) - 2)) + 1)).toNat + 1) ((l_turns_7 v ((((v 7 0) - 2) + 1).toNat + 1) ((v 7 0) - 2)) + 1) ((v 7 0) - 1) (f_swaps (l_turns_7 v ((((v 7 0) - 2) + 1).toNat + 1) ((v 7 0) - 2)) (l_turns_47 (l_turns_7 v ((((v 7 0) - 2) + 1).toNat + 1) ((v 7 0) - 2)) v ((((v 7 0) - 1)).toNat + 1) ((v 7 0) - 1)) v) hJ13 (by show 0 ≤ ((l_turns_7 v ((((v 7 0) - 2) + 1).toNat + 1) ((v 7 0) - 2)) + 1) ∧ ((l_turns_7 v ((((v 7 0) - 2) + 1).toNat + 1) ((v 7 0) - 2)) + 1) ≤ 100; omega) (by show 0 ≤ ((v 7 0) - 1) ∧ ((v 7 0) - 1) ≤ 5; omega) (by show (((v 7 0) - 1) - ((l_turns_7 v ((((v 7 0) - 2) + 1).toNat + 1) ((v 7 0) - 2)) + 1)).toNat < ((((v 7 0) - 1) - ((l_turns_7 v ((((v 7 0) - 2) + 1).toNat + 1) ((v 7 0) - 2)) + 1)).toNat + 1); omega)
  · refine Ei.const dX11_turns_38 ?_
    exact Ev.iretE rfl (nar_b (by omega)) dX11_turns_39 (by rw [f_turns, if_neg c11]; try rfl) (by first | rfl | (rw [f_turns, if_neg c11]; try rfl))
theorem i_turns {v : Vw} {T E : Int} (hI : IM v T E) (hq : 1 ≤ v 7 0) : IM (f_turns v).2 T (E) := by
  have hT := hI.1
  have u7 : 0 ≤ v 7 0 ∧ v 7 0 ≤ 6 := hI.2 7 0
  have q10 := r_l_turns_7 (v := v) ((((v 7 0) - 2) + 1).toNat + 1) (v 7 0 - 2) (by omega) (by omega)
  by_cases c11 : 0 ≤ (l_turns_7 v ((((v 7 0) - 2) + 1).toNat + 1) ((v 7 0) - 2))
  · have q12 := r_l_turns_47 (v := v) (l_turns_7 v ((((v 7 0) - 2) + 1).toNat + 1) ((v 7 0) - 2)) ((((v 7 0) - 1)).toNat + 1) (v 7 0 - 1) (by omega) (by omega) (by omega)
    have hJ13 := (i_swaps (a := (l_turns_7 v ((((v 7 0) - 2) + 1).toNat + 1) ((v 7 0) - 2))) (b := (l_turns_47 (l_turns_7 v ((((v 7 0) - 2) + 1).toNat + 1) ((v 7 0) - 2)) v ((((v 7 0) - 1)).toNat + 1) ((v 7 0) - 1))) hI (by show 0 ≤ (l_turns_7 v ((((v 7 0) - 2) + 1).toNat + 1) ((v 7 0) - 2)) ∧ (l_turns_7 v ((((v 7 0) - 2) + 1).toNat + 1) ((v 7 0) - 2)) ≤ 5; omega) (by show 0 ≤ (l_turns_47 (l_turns_7 v ((((v 7 0) - 2) + 1).toNat + 1) ((v 7 0) - 2)) v ((((v 7 0) - 1)).toNat + 1) ((v 7 0) - 1)) ∧ (l_turns_47 (l_turns_7 v ((((v 7 0) - 2) + 1).toNat + 1) ((v 7 0) - 2)) v ((((v 7 0) - 1)).toNat + 1) ((v 7 0) - 1)) ≤ 5; omega))
    have q14 : (f_swaps (l_turns_7 v ((((v 7 0) - 2) + 1).toNat + 1) ((v 7 0) - 2)) (l_turns_47 (l_turns_7 v ((((v 7 0) - 2) + 1).toNat + 1) ((v 7 0) - 2)) v ((((v 7 0) - 1)).toNat + 1) ((v 7 0) - 1)) v) 7 0 = v 7 0 := (fr_swaps (a := (l_turns_7 v ((((v 7 0) - 2) + 1).toNat + 1) ((v 7 0) - 2))) (b := (l_turns_47 (l_turns_7 v ((((v 7 0) - 2) + 1).toNat + 1) ((v 7 0) - 2)) v ((((v 7 0) - 1)).toNat + 1) ((v 7 0) - 1))) (v := v) 7 0 (by decide)).trans rfl
    rw [f_turns, if_pos c11]
    exact i_l_turns_86  ((((v 7 0) - 1) - ((l_turns_7 v ((((v 7 0) - 2) + 1).toNat + 1) ((v 7 0) - 2)) + 1)).toNat + 1) ((l_turns_7 v ((((v 7 0) - 2) + 1).toNat + 1) ((v 7 0) - 2)) + 1) ((v 7 0) - 1) (f_swaps (l_turns_7 v ((((v 7 0) - 2) + 1).toNat + 1) ((v 7 0) - 2)) (l_turns_47 (l_turns_7 v ((((v 7 0) - 2) + 1).toNat + 1) ((v 7 0) - 2)) v ((((v 7 0) - 1)).toNat + 1) ((v 7 0) - 1)) v) hJ13 (by show 0 ≤ ((l_turns_7 v ((((v 7 0) - 2) + 1).toNat + 1) ((v 7 0) - 2)) + 1) ∧ ((l_turns_7 v ((((v 7 0) - 2) + 1).toNat + 1) ((v 7 0) - 2)) + 1) ≤ 100; omega) (by show 0 ≤ ((v 7 0) - 1) ∧ ((v 7 0) - 1) ≤ 5; omega)
  · rw [f_turns, if_neg c11]
    exact hI
theorem fr_turns {v : Vw} (fk : Nat) (fi : Int) (hk : fk ≠ 40) : (f_turns v).2 fk fi = v fk fi := by
  by_cases c11 : 0 ≤ (l_turns_7 v ((((v 7 0) - 2) + 1).toNat + 1) ((v 7 0) - 2))
  · rw [f_turns, if_pos c11]
    exact (fr_l_turns_86 ((((v 7 0) - 1) - ((l_turns_7 v ((((v 7 0) - 2) + 1).toNat + 1) ((v 7 0) - 2)) + 1)).toNat + 1) ((l_turns_7 v ((((v 7 0) - 2) + 1).toNat + 1) ((v 7 0) - 2)) + 1) ((v 7 0) - 1) (f_swaps (l_turns_7 v ((((v 7 0) - 2) + 1).toNat + 1) ((v 7 0) - 2)) (l_turns_47 (l_turns_7 v ((((v 7 0) - 2) + 1).toNat + 1) ((v 7 0) - 2)) v ((((v 7 0) - 1)).toNat + 1) ((v 7 0) - 1)) v) fk fi (by omega)).trans ((fr_swaps (a := (l_turns_7 v ((((v 7 0) - 2) + 1).toNat + 1) ((v 7 0) - 2))) (b := (l_turns_47 (l_turns_7 v ((((v 7 0) - 2) + 1).toNat + 1) ((v 7 0) - 2)) v ((((v 7 0) - 1)).toNat + 1) ((v 7 0) - 1))) (v := v) fk fi (by omega)).trans rfl)
  · rw [f_turns, if_neg c11]
    try rfl
theorem rb_turns (v : Vw) : 0 ≤ (f_turns v).1 ∧ (f_turns v).1 ≤ 1 := by
  unfold f_turns
  repeat' split
  all_goals first | exact rb_l_turns_86 _ _ _ _ | exact ⟨Int.le_refl 0, Int.zero_le_ofNat 1⟩
