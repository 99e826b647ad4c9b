/-! the model's constructor (written by wip/whole/mk86.py) -/
theorem MI.kdA {σ τ : Hp} {m0 j K n w : Nat} (h : MI σ τ m0 j) : (τ.al K n w).kd m0 = 15 := by
  show (if m0 = τ.sz then K else τ.kd m0) = 15
  rw [if_neg (by have := h.1.1; omega)]
  exact h.1.2.1
theorem s_X11_init {X : Cx} {σ : Hp} {m0 : Nat} (h1 : σ.sz = m0 + 1) (h2 : σ.kd m0 = 15) (h3 : ∀ k, σ.iv m0 k = 0) (h4 : ∀ a, m0 + 1 ≤ a → σ.kd a = 0) : Ct X m_X11_init 1 [va_rf (some m0)] σ (.inl none) (mh σ m0 35) := by
  have hm := mh_ok h1 h2 h3 h4
  refine Ct.of (by decide +kernel) rfl (Nat.le_of_ble_eq_true rfl) (by simp [Value.category, va_rf]) ?_
  refine Ev.aload_n (i := 0) dX11_init_0 rfl rfl ?_
  refine Ev.objInit (tb6 (i := 209) rfl) (Nat.le_refl _) (by decide) dX11_init_1 ?_
  refine Ev.aload_n (i := 0) dX11_init_4 rfl rfl ?_
  refine Ei.const dX11_init_5 ?_
  refine Ev.pI (ci := 14) (k := 3) (C := RX11) (T := TX11) (N := 47) rfl (by decide) (by decide) (tb6 (i := 213) rfl) (Or.inl rfl) (Or.inl rfl) rfl rfl rfl h2 dX11_init_6 ?_
  show Ev X m_X11_init 1 9 _ [] (mh σ m0 0) _ _
  refine Ev.aload_n (i := 0) dX11_init_9 rfl rfl ?_
  refine Ei.const dX11_init_10 ?_
  refine Ev.newA (K := 20) (ti := 0) (n := i32 5) (j := 5) (by decide) (by decide) (by decide) (Or.inl rfl) (tb7 (i := 112) rfl) dX11_init_11 ?_
  refine Ev.pR (ci := 14) (k := 12) (C := RX11) (T := TX11) (N := 47) (x := some (mh σ m0 0).sz) rfl (by decide) (by decide) (tb6 (i := 222) rfl) (Or.inl rfl) (Or.inr ⟨rfl, rfl⟩) rfl (hm 0).kdA dX11_init_13 ?_
  show Ev X m_X11_init 1 16 _ [] (mh σ m0 1) _ _
  refine Ev.aload_n (i := 0) dX11_init_16 rfl rfl ?_
  refine Ei.const dX11_init_17 ?_
  refine Ev.newA (K := 20) (ti := 0) (n := i32 5) (j := 5) (by decide) (by decide) (by decide) (Or.inl rfl) (tb7 (i := 112) rfl) dX11_init_18 ?_
  refine Ev.pR (ci := 14) (k := 13) (C := RX11) (T := TX11) (N := 47) (x := some (mh σ m0 1).sz) rfl (by decide) (by decide) (tb6 (i := 223) rfl) (Or.inl rfl) (Or.inr ⟨rfl, rfl⟩) rfl (hm 1).kdA dX11_init_20 ?_
  show Ev X m_X11_init 1 23 _ [] (mh σ m0 2) _ _
  refine Ev.aload_n (i := 0) dX11_init_23 rfl rfl ?_
  refine Ei.const dX11_init_24 ?_
  refine Ev.newA (K := 20) (ti := 0) (n := i32 5) (j := 5) (by decide) (by decide) (by decide) (Or.inl rfl) (tb7 (i := 112) rfl) dX11_init_25 ?_
  refine Ev.pR (ci := 14) (k := 14) (C := RX11) (T := TX11) (N := 47) (x := some (mh σ m0 2).sz) rfl (by decide) (by decide) (tb6 (i := 224) rfl) (Or.inl rfl) (Or.inr ⟨rfl, rfl⟩) rfl (hm 2).kdA dX11_init_27 ?_
  show Ev X m_X11_init 1 30 _ [] (mh σ m0 3) _ _
  refine Ev.aload_n (i := 0) dX11_init_30 rfl rfl ?_
  refine Ev.bipush (v := i32 8) dX11_init_31 (by decide) ?_
  refine Ev.newA (K := 20) (ti := 0) (n := i32 8) (j := 8) (by decide) (by decide) (by decide) (Or.inl rfl) (tb7 (i := 112) rfl) dX11_init_33 ?_
  refine Ev.pR (ci := 14) (k := 15) (C := RX11) (T := TX11) (N := 47) (x := some (mh σ m0 3).sz) rfl (by decide) (by decide) (tb6 (i := 225) rfl) (Or.inl rfl) (Or.inr ⟨rfl, rfl⟩) rfl (hm 3).kdA dX11_init_35 ?_
  show Ev X m_X11_init 1 38 _ [] (mh σ m0 4) _ _
  refine Ev.aload_n (i := 0) dX11_init_38 rfl rfl ?_
  refine Ev.bipush (v := i32 8) dX11_init_39 (by decide) ?_
  refine Ev.newA (K := 20) (ti := 0) (n := i32 8) (j := 8) (by decide) (by decide) (by decide) (Or.inl rfl) (tb7 (i := 112) rfl) dX11_init_41 ?_
  refine Ev.pR (ci := 14) (k := 16) (C := RX11) (T := TX11) (N := 47) (x := some (mh σ m0 4).sz) rfl (by decide) (by decide) (tb6 (i := 226) rfl) (Or.inl rfl) (Or.inr ⟨rfl, rfl⟩) rfl (hm 4).kdA dX11_init_43 ?_
  show Ev X m_X11_init 1 46 _ [] (mh σ m0 5) _ _
  refine Ev.aload_n (i := 0) dX11_init_46 rfl rfl ?_
  refine Ev.bipush (v := i32 8) dX11_init_47 (by decide) ?_
  refine Ev.newA (K := 20) (ti := 0) (n := i32 8) (j := 8) (by decide) (by decide) (by decide) (Or.inl rfl) (tb7 (i := 112) rfl) dX11_init_49 ?_
  refine Ev.pR (ci := 14) (k := 17) (C := RX11) (T := TX11) (N := 47) (x := some (mh σ m0 5).sz) rfl (by decide) (by decide) (tb6 (i := 227) rfl) (Or.inl rfl) (Or.inr ⟨rfl, rfl⟩) rfl (hm 5).kdA dX11_init_51 ?_
  show Ev X m_X11_init 1 54 _ [] (mh σ m0 6) _ _
  refine Ev.aload_n (i := 0) dX11_init_54 rfl rfl ?_
  refine Ev.bipush (v := i32 8) dX11_init_55 (by decide) ?_
  refine Ev.newA (K := 20) (ti := 0) (n := i32 8) (j := 8) (by decide) (by decide) (by decide) (Or.inl rfl) (tb7 (i := 112) rfl) dX11_init_57 ?_
  refine Ev.pR (ci := 14) (k := 18) (C := RX11) (T := TX11) (N := 47) (x := some (mh σ m0 6).sz) rfl (by decide) (by decide) (tb6 (i := 228) rfl) (Or.inl rfl) (Or.inr ⟨rfl, rfl⟩) rfl (hm 6).kdA dX11_init_59 ?_
  show Ev X m_X11_init 1 62 _ [] (mh σ m0 7) _ _
  refine Ev.aload_n (i := 0) dX11_init_62 rfl rfl ?_
  refine Ev.bipush (v := i32 8) dX11_init_63 (by decide) ?_
  refine Ev.newA (K := 20) (ti := 0) (n := i32 8) (j := 8) (by decide) (by decide) (by decide) (Or.inl rfl) (tb7 (i := 112) rfl) dX11_init_65 ?_
  refine Ev.pR (ci := 14) (k := 19) (C := RX11) (T := TX11) (N := 47) (x := some (mh σ m0 7).sz) rfl (by decide) (by decide) (tb6 (i := 229) rfl) (Or.inl rfl) (Or.inr ⟨rfl, rfl⟩) rfl (hm 7).kdA dX11_init_67 ?_
  show Ev X m_X11_init 1 70 _ [] (mh σ m0 8) _ _
  refine Ev.aload_n (i := 0) dX11_init_70 rfl rfl ?_
  refine Ev.bipush (v := i32 8) dX11_init_71 (by decide) ?_
  refine Ev.newA (K := 23) (ti := 3) (n := i32 8) (j := 8) (by decide) (by decide) (by decide) (Or.inr (Or.inr (Or.inr rfl))) (tb7 (i := 113) rfl) dX11_init_73 ?_
  refine Ev.pR (ci := 14) (k := 20) (C := RX11) (T := TX11) (N := 47) (x := some (mh σ m0 8).sz) rfl (by decide) (by decide) (tb6 (i := 230) rfl) (Or.inl rfl) (Or.inr ⟨rfl, rfl⟩) rfl (hm 8).kdA dX11_init_75 ?_
  show Ev X m_X11_init 1 78 _ [] (mh σ m0 9) _ _
  refine Ev.aload_n (i := 0) dX11_init_78 rfl rfl ?_
  refine Ei.const dX11_init_79 ?_
  refine Ev.newA (K := 20) (ti := 0) (n := i32 4) (j := 4) (by decide) (by decide) (by decide) (Or.inl rfl) (tb7 (i := 112) rfl) dX11_init_80 ?_
  refine Ev.pR (ci := 14) (k := 21) (C := RX11) (T := TX11) (N := 47) (x := some (mh σ m0 9).sz) rfl (by decide) (by decide) (tb6 (i := 231) rfl) (Or.inl rfl) (Or.inr ⟨rfl, rfl⟩) rfl (hm 9).kdA dX11_init_82 ?_
  show Ev X m_X11_init 1 85 _ [] (mh σ m0 10) _ _
  refine Ev.aload_n (i := 0) dX11_init_85 rfl rfl ?_
  refine Ev.bipush (v := i32 60) dX11_init_86 (by decide) ?_
  refine Ev.newA (K := 20) (ti := 0) (n := i32 60) (j := 60) (by decide) (by decide) (by decide) (Or.inl rfl) (tb7 (i := 112) rfl) dX11_init_88 ?_
  refine Ev.pR (ci := 14) (k := 22) (C := RX11) (T := TX11) (N := 47) (x := some (mh σ m0 10).sz) rfl (by decide) (by decide) (tb6 (i := 232) rfl) (Or.inl rfl) (Or.inr ⟨rfl, rfl⟩) rfl (hm 10).kdA dX11_init_90 ?_
  show Ev X m_X11_init 1 93 _ [] (mh σ m0 11) _ _
  refine Ev.aload_n (i := 0) dX11_init_93 rfl rfl ?_
  refine Ev.bipush (v := i32 60) dX11_init_94 (by decide) ?_
  refine Ev.newA (K := 20) (ti := 0) (n := i32 60) (j := 60) (by decide) (by decide) (by decide) (Or.inl rfl) (tb7 (i := 112) rfl) dX11_init_96 ?_
  refine Ev.pR (ci := 14) (k := 23) (C := RX11) (T := TX11) (N := 47) (x := some (mh σ m0 11).sz) rfl (by decide) (by decide) (tb6 (i := 233) rfl) (Or.inl rfl) (Or.inr ⟨rfl, rfl⟩) rfl (hm 11).kdA dX11_init_98 ?_
  show Ev X m_X11_init 1 101 _ [] (mh σ m0 12) _ _
  refine Ev.aload_n (i := 0) dX11_init_101 rfl rfl ?_
  refine Ev.bipush (v := i32 60) dX11_init_102 (by decide) ?_
  refine Ev.newA (K := 20) (ti := 0) (n := i32 60) (j := 60) (by decide) (by decide) (by decide) (Or.inl rfl) (tb7 (i := 112) rfl) dX11_init_104 ?_
  refine Ev.pR (ci := 14) (k := 24) (C := RX11) (T := TX11) (N := 47) (x := some (mh σ m0 12).sz) rfl (by decide) (by decide) (tb6 (i := 234) rfl) (Or.inl rfl) (Or.inr ⟨rfl, rfl⟩) rfl (hm 12).kdA dX11_init_106 ?_
  show Ev X m_X11_init 1 109 _ [] (mh σ m0 13) _ _
  refine Ev.aload_n (i := 0) dX11_init_109 rfl rfl ?_
  refine Ev.bipush (v := i32 60) dX11_init_110 (by decide) ?_
  refine Ev.newA (K := 23) (ti := 3) (n := i32 60) (j := 60) (by decide) (by decide) (by decide) (Or.inr (Or.inr (Or.inr rfl))) (tb7 (i := 113) rfl) dX11_init_112 ?_
  refine Ev.pR (ci := 14) (k := 25) (C := RX11) (T := TX11) (N := 47) (x := some (mh σ m0 13).sz) rfl (by decide) (by decide) (tb6 (i := 235) rfl) (Or.inl rfl) (Or.inr ⟨rfl, rfl⟩) rfl (hm 13).kdA dX11_init_114 ?_
  show Ev X m_X11_init 1 117 _ [] (mh σ m0 14) _ _
  refine Ev.aload_n (i := 0) dX11_init_117 rfl rfl ?_
  refine Ev.bipush (v := i32 30) dX11_init_118 (by decide) ?_
  refine Ev.newA (K := 20) (ti := 0) (n := i32 30) (j := 30) (by decide) (by decide) (by decide) (Or.inl rfl) (tb7 (i := 112) rfl) dX11_init_120 ?_
  refine Ev.pR (ci := 14) (k := 26) (C := RX11) (T := TX11) (N := 47) (x := some (mh σ m0 14).sz) rfl (by decide) (by decide) (tb6 (i := 236) rfl) (Or.inl rfl) (Or.inr ⟨rfl, rfl⟩) rfl (hm 14).kdA dX11_init_122 ?_
  show Ev X m_X11_init 1 125 _ [] (mh σ m0 15) _ _
  refine Ev.aload_n (i := 0) dX11_init_125 rfl rfl ?_
  refine Ev.bipush (v := i32 30) dX11_init_126 (by decide) ?_
  refine Ev.newA (K := 20) (ti := 0) (n := i32 30) (j := 30) (by decide) (by decide) (by decide) (Or.inl rfl) (tb7 (i := 112) rfl) dX11_init_128 ?_
  refine Ev.pR (ci := 14) (k := 27) (C := RX11) (T := TX11) (N := 47) (x := some (mh σ m0 15).sz) rfl (by decide) (by decide) (tb6 (i := 237) rfl) (Or.inl rfl) (Or.inr ⟨rfl, rfl⟩) rfl (hm 15).kdA dX11_init_130 ?_
  show Ev X m_X11_init 1 133 _ [] (mh σ m0 16) _ _
  refine Ev.aload_n (i := 0) dX11_init_133 rfl rfl ?_
  refine Ev.bipush (v := i32 30) dX11_init_134 (by decide) ?_
  refine Ev.newA (K := 20) (ti := 0) (n := i32 30) (j := 30) (by decide) (by decide) (by decide) (Or.inl rfl) (tb7 (i := 112) rfl) dX11_init_136 ?_
  refine Ev.pR (ci := 14) (k := 28) (C := RX11) (T := TX11) (N := 47) (x := some (mh σ m0 16).sz) rfl (by decide) (by decide) (tb6 (i := 238) rfl) (Or.inl rfl) (Or.inr ⟨rfl, rfl⟩) rfl (hm 16).kdA dX11_init_138 ?_
  show Ev X m_X11_init 1 141 _ [] (mh σ m0 17) _ _
  refine Ev.aload_n (i := 0) dX11_init_141 rfl rfl ?_
  refine Ev.bipush (v := i32 30) dX11_init_142 (by decide) ?_
  refine Ev.newA (K := 20) (ti := 0) (n := i32 30) (j := 30) (by decide) (by decide) (by decide) (Or.inl rfl) (tb7 (i := 112) rfl) dX11_init_144 ?_
  refine Ev.pR (ci := 14) (k := 29) (C := RX11) (T := TX11) (N := 47) (x := some (mh σ m0 17).sz) rfl (by decide) (by decide) (tb6 (i := 239) rfl) (Or.inl rfl) (Or.inr ⟨rfl, rfl⟩) rfl (hm 17).kdA dX11_init_146 ?_
  show Ev X m_X11_init 1 149 _ [] (mh σ m0 18) _ _
  refine Ev.aload_n (i := 0) dX11_init_149 rfl rfl ?_
  refine Ev.bipush (v := i32 30) dX11_init_150 (by decide) ?_
  refine Ev.newA (K := 20) (ti := 0) (n := i32 30) (j := 30) (by decide) (by decide) (by decide) (Or.inl rfl) (tb7 (i := 112) rfl) dX11_init_152 ?_
  refine Ev.pR (ci := 14) (k := 30) (C := RX11) (T := TX11) (N := 47) (x := some (mh σ m0 18).sz) rfl (by decide) (by decide) (tb7 (i := 0) rfl) (Or.inl rfl) (Or.inr ⟨rfl, rfl⟩) rfl (hm 18).kdA dX11_init_154 ?_
  show Ev X m_X11_init 1 157 _ [] (mh σ m0 19) _ _
  refine Ev.aload_n (i := 0) dX11_init_157 rfl rfl ?_
  refine Ev.bipush (v := i32 30) dX11_init_158 (by decide) ?_
  refine Ev.newA (K := 20) (ti := 0) (n := i32 30) (j := 30) (by decide) (by decide) (by decide) (Or.inl rfl) (tb7 (i := 112) rfl) dX11_init_160 ?_
  refine Ev.pR (ci := 14) (k := 31) (C := RX11) (T := TX11) (N := 47) (x := some (mh σ m0 19).sz) rfl (by decide) (by decide) (tb7 (i := 1) rfl) (Or.inl rfl) (Or.inr ⟨rfl, rfl⟩) rfl (hm 19).kdA dX11_init_162 ?_
  show Ev X m_X11_init 1 165 _ [] (mh σ m0 20) _ _
  refine Ev.aload_n (i := 0) dX11_init_165 rfl rfl ?_
  refine Ev.bipush (v := i32 20) dX11_init_166 (by decide) ?_
  refine Ev.newA (K := 20) (ti := 0) (n := i32 20) (j := 20) (by decide) (by decide) (by decide) (Or.inl rfl) (tb7 (i := 112) rfl) dX11_init_168 ?_
  refine Ev.pR (ci := 14) (k := 32) (C := RX11) (T := TX11) (N := 47) (x := some (mh σ m0 20).sz) rfl (by decide) (by decide) (tb7 (i := 2) rfl) (Or.inl rfl) (Or.inr ⟨rfl, rfl⟩) rfl (hm 20).kdA dX11_init_170 ?_
  show Ev X m_X11_init 1 173 _ [] (mh σ m0 21) _ _
  refine Ev.aload_n (i := 0) dX11_init_173 rfl rfl ?_
  refine Ev.bipush (v := i32 20) dX11_init_174 (by decide) ?_
  refine Ev.newA (K := 20) (ti := 0) (n := i32 20) (j := 20) (by decide) (by decide) (by decide) (Or.inl rfl) (tb7 (i := 112) rfl) dX11_init_176 ?_
  refine Ev.pR (ci := 14) (k := 33) (C := RX11) (T := TX11) (N := 47) (x := some (mh σ m0 21).sz) rfl (by decide) (by decide) (tb7 (i := 3) rfl) (Or.inl rfl) (Or.inr ⟨rfl, rfl⟩) rfl (hm 21).kdA dX11_init_178 ?_
  show Ev X m_X11_init 1 181 _ [] (mh σ m0 22) _ _
  refine Ev.aload_n (i := 0) dX11_init_181 rfl rfl ?_
  refine Ev.bipush (v := i32 20) dX11_init_182 (by decide) ?_
  refine Ev.newA (K := 20) (ti := 0) (n := i32 20) (j := 20) (by decide) (by decide) (by decide) (Or.inl rfl) (tb7 (i := 112) rfl) dX11_init_184 ?_
  refine Ev.pR (ci := 14) (k := 34) (C := RX11) (T := TX11) (N := 47) (x := some (mh σ m0 22).sz) rfl (by decide) (by decide) (tb7 (i := 4) rfl) (Or.inl rfl) (Or.inr ⟨rfl, rfl⟩) rfl (hm 22).kdA dX11_init_186 ?_
  show Ev X m_X11_init 1 189 _ [] (mh σ m0 23) _ _
  refine Ev.aload_n (i := 0) dX11_init_189 rfl rfl ?_
  refine Ev.bipush (v := i32 20) dX11_init_190 (by decide) ?_
  refine Ev.newA (K := 20) (ti := 0) (n := i32 20) (j := 20) (by decide) (by decide) (by decide) (Or.inl rfl) (tb7 (i := 112) rfl) dX11_init_192 ?_
  refine Ev.pR (ci := 14) (k := 35) (C := RX11) (T := TX11) (N := 47) (x := some (mh σ m0 23).sz) rfl (by decide) (by decide) (tb7 (i := 5) rfl) (Or.inl rfl) (Or.inr ⟨rfl, rfl⟩) rfl (hm 23).kdA dX11_init_194 ?_
  show Ev X m_X11_init 1 197 _ [] (mh σ m0 24) _ _
  refine Ev.aload_n (i := 0) dX11_init_197 rfl rfl ?_
  refine Ev.bipush (v := i32 80) dX11_init_198 (by decide) ?_
  refine Ev.newA (K := 20) (ti := 0) (n := i32 80) (j := 80) (by decide) (by decide) (by decide) (Or.inl rfl) (tb7 (i := 112) rfl) dX11_init_200 ?_
  refine Ev.pR (ci := 14) (k := 36) (C := RX11) (T := TX11) (N := 47) (x := some (mh σ m0 24).sz) rfl (by decide) (by decide) (tb7 (i := 6) rfl) (Or.inl rfl) (Or.inr ⟨rfl, rfl⟩) rfl (hm 24).kdA dX11_init_202 ?_
  show Ev X m_X11_init 1 205 _ [] (mh σ m0 25) _ _
  refine Ev.aload_n (i := 0) dX11_init_205 rfl rfl ?_
  refine Ev.bipush (v := i32 80) dX11_init_206 (by decide) ?_
  refine Ev.newA (K := 20) (ti := 0) (n := i32 80) (j := 80) (by decide) (by decide) (by decide) (Or.inl rfl) (tb7 (i := 112) rfl) dX11_init_208 ?_
  refine Ev.pR (ci := 14) (k := 37) (C := RX11) (T := TX11) (N := 47) (x := some (mh σ m0 25).sz) rfl (by decide) (by decide) (tb7 (i := 7) rfl) (Or.inl rfl) (Or.inr ⟨rfl, rfl⟩) rfl (hm 25).kdA dX11_init_210 ?_
  show Ev X m_X11_init 1 213 _ [] (mh σ m0 26) _ _
  refine Ev.aload_n (i := 0) dX11_init_213 rfl rfl ?_
  refine Ev.bipush (v := i32 20) dX11_init_214 (by decide) ?_
  refine Ev.newA (K := 23) (ti := 3) (n := i32 20) (j := 20) (by decide) (by decide) (by decide) (Or.inr (Or.inr (Or.inr rfl))) (tb7 (i := 113) rfl) dX11_init_216 ?_
  refine Ev.pR (ci := 14) (k := 38) (C := RX11) (T := TX11) (N := 47) (x := some (mh σ m0 26).sz) rfl (by decide) (by decide) (tb7 (i := 8) rfl) (Or.inl rfl) (Or.inr ⟨rfl, rfl⟩) rfl (hm 26).kdA dX11_init_218 ?_
  show Ev X m_X11_init 1 221 _ [] (mh σ m0 27) _ _
  refine Ev.aload_n (i := 0) dX11_init_221 rfl rfl ?_
  refine Ev.bipush (v := i32 6) dX11_init_222 (by decide) ?_
  refine Ev.newA (K := 20) (ti := 0) (n := i32 6) (j := 6) (by decide) (by decide) (by decide) (Or.inl rfl) (tb7 (i := 112) rfl) dX11_init_224 ?_
  refine Ev.pR (ci := 14) (k := 39) (C := RX11) (T := TX11) (N := 47) (x := some (mh σ m0 27).sz) rfl (by decide) (by decide) (tb7 (i := 9) rfl) (Or.inl rfl) (Or.inr ⟨rfl, rfl⟩) rfl (hm 27).kdA dX11_init_226 ?_
  show Ev X m_X11_init 1 229 _ [] (mh σ m0 28) _ _
  refine Ev.aload_n (i := 0) dX11_init_229 rfl rfl ?_
  refine Ev.bipush (v := i32 6) dX11_init_230 (by decide) ?_
  refine Ev.newA (K := 20) (ti := 0) (n := i32 6) (j := 6) (by decide) (by decide) (by decide) (Or.inl rfl) (tb7 (i := 112) rfl) dX11_init_232 ?_
  refine Ev.pR (ci := 14) (k := 40) (C := RX11) (T := TX11) (N := 47) (x := some (mh σ m0 28).sz) rfl (by decide) (by decide) (tb7 (i := 10) rfl) (Or.inl rfl) (Or.inr ⟨rfl, rfl⟩) rfl (hm 28).kdA dX11_init_234 ?_
  show Ev X m_X11_init 1 237 _ [] (mh σ m0 29) _ _
  refine Ev.aload_n (i := 0) dX11_init_237 rfl rfl ?_
  refine Ev.bipush (v := i32 6) dX11_init_238 (by decide) ?_
  refine Ev.newA (K := 20) (ti := 0) (n := i32 6) (j := 6) (by decide) (by decide) (by decide) (Or.inl rfl) (tb7 (i := 112) rfl) dX11_init_240 ?_
  refine Ev.pR (ci := 14) (k := 41) (C := RX11) (T := TX11) (N := 47) (x := some (mh σ m0 29).sz) rfl (by decide) (by decide) (tb7 (i := 11) rfl) (Or.inl rfl) (Or.inr ⟨rfl, rfl⟩) rfl (hm 29).kdA dX11_init_242 ?_
  show Ev X m_X11_init 1 245 _ [] (mh σ m0 30) _ _
  refine Ev.aload_n (i := 0) dX11_init_245 rfl rfl ?_
  refine Ev.bipush (v := i32 8) dX11_init_246 (by decide) ?_
  refine Ev.newA (K := 20) (ti := 0) (n := i32 8) (j := 8) (by decide) (by decide) (by decide) (Or.inl rfl) (tb7 (i := 112) rfl) dX11_init_248 ?_
  refine Ev.pR (ci := 14) (k := 42) (C := RX11) (T := TX11) (N := 47) (x := some (mh σ m0 30).sz) rfl (by decide) (by decide) (tb7 (i := 12) rfl) (Or.inl rfl) (Or.inr ⟨rfl, rfl⟩) rfl (hm 30).kdA dX11_init_250 ?_
  show Ev X m_X11_init 1 253 _ [] (mh σ m0 31) _ _
  refine Ev.aload_n (i := 0) dX11_init_253 rfl rfl ?_
  refine Ev.bipush (v := i32 8) dX11_init_254 (by decide) ?_
  refine Ev.newA (K := 20) (ti := 0) (n := i32 8) (j := 8) (by decide) (by decide) (by decide) (Or.inl rfl) (tb7 (i := 112) rfl) dX11_init_256 ?_
  refine Ev.pR (ci := 14) (k := 43) (C := RX11) (T := TX11) (N := 47) (x := some (mh σ m0 31).sz) rfl (by decide) (by decide) (tb7 (i := 13) rfl) (Or.inl rfl) (Or.inr ⟨rfl, rfl⟩) rfl (hm 31).kdA dX11_init_258 ?_
  show Ev X m_X11_init 1 261 _ [] (mh σ m0 32) _ _
  refine Ev.aload_n (i := 0) dX11_init_261 rfl rfl ?_
  refine Ev.sipush (v := i32 128) dX11_init_262 (by decide) ?_
  refine Ev.newA (K := 20) (ti := 0) (n := i32 128) (j := 128) (by decide) (by decide) (by decide) (Or.inl rfl) (tb7 (i := 112) rfl) dX11_init_265 ?_
  refine Ev.pR (ci := 14) (k := 44) (C := RX11) (T := TX11) (N := 47) (x := some (mh σ m0 32).sz) rfl (by decide) (by decide) (tb7 (i := 14) rfl) (Or.inl rfl) (Or.inr ⟨rfl, rfl⟩) rfl (hm 32).kdA dX11_init_267 ?_
  show Ev X m_X11_init 1 270 _ [] (mh σ m0 33) _ _
  refine Ev.aload_n (i := 0) dX11_init_270 rfl rfl ?_
  refine Ev.sipush (v := i32 128) dX11_init_271 (by decide) ?_
  refine Ev.newA (K := 20) (ti := 0) (n := i32 128) (j := 128) (by decide) (by decide) (by decide) (Or.inl rfl) (tb7 (i := 112) rfl) dX11_init_274 ?_
  refine Ev.pR (ci := 14) (k := 45) (C := RX11) (T := TX11) (N := 47) (x := some (mh σ m0 33).sz) rfl (by decide) (by decide) (tb7 (i := 15) rfl) (Or.inl rfl) (Or.inr ⟨rfl, rfl⟩) rfl (hm 33).kdA dX11_init_276 ?_
  show Ev X m_X11_init 1 279 _ [] (mh σ m0 34) _ _
  refine Ev.aload_n (i := 0) dX11_init_279 rfl rfl ?_
  refine Ev.sipush (v := i32 128) dX11_init_280 (by decide) ?_
  refine Ev.newA (K := 20) (ti := 0) (n := i32 128) (j := 128) (by decide) (by decide) (by decide) (Or.inl rfl) (tb7 (i := 112) rfl) dX11_init_283 ?_
  refine Ev.pR (ci := 14) (k := 46) (C := RX11) (T := TX11) (N := 47) (x := some (mh σ m0 34).sz) rfl (by decide) (by decide) (tb7 (i := 16) rfl) (Or.inl rfl) (Or.inr ⟨rfl, rfl⟩) rfl (hm 34).kdA dX11_init_285 ?_
  show Ev X m_X11_init 1 288 _ [] (mh σ m0 35) _ _
  exact Ev.vret rfl dX11_init_288
