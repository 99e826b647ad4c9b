/-! the class's constructors (written by wip/whole/mk89.py) -/
theorem Er.ciN {X : Cx} {ρ : Hp} {M : Mt} {d pc : Nat} {ls : List (Option AV)} {st : List AV} {c c' : Cs} {r : Rr} {ci ix n d' : Nat} {b : Int} {host : String} {M' : Mt} {as : List AV} {st0 : List AV} {c1 : Cs} (hm : cokD M' n) (hrt : M'.rt = none) (hnm : M'.y.name = "<init>") (h3 : 2 ≤ ci ∧ ci < 100) (hw : Cond.methodLinkNest M.y.cls ix M'.y host ∈ lw_tbl) (hi : Cond.instanceMethod M'.y ∈ lw_tbl)
    (d9 : decode M.cc pc = .ok (.invokespecial ix, 3)) (hst : st0 = as.reverse ++ (ci, b) :: st) (hn : as.length = n) (hsm : st.length ≤ 8) (hd : d' + 1 ≤ d) (hK : Kr X ρ M' d' ((ci, b) :: as) c (.inl none) c1) (k : Er X ρ M d (pc + 3) ls st c1 r c') : Er X ρ M d pc ls st0 c r c' := by
  subst hst
  intro A σ B hC hl hs0
  obtain ⟨w1, w2⟩ := WS.call hs0
  obtain ⟨τ1, A1, B1, g1, g2, g3, g4⟩ := hK A σ B hC w1
  obtain ⟨τ, A', B', k1, k2, k3, k4⟩ := k A1 τ1 B1 g2 (g3.ls hl).2 (g3.st w2).2
  refine ⟨τ, A', B', ?_, k2, g3.trans k3, k4⟩
  have hg := w1.hd.r h3
  rw [(g3.ls hl).1, (g3.st w2).1] at k1
  rw [map_call, ia_rg hg]
  have g1' : Ct X M' d' (ia A (ci, b) :: as.map (ia A)) σ (.inl none) τ1 := g1
  rw [ia_rg hg] at g1'
  exact Ev.callIN hm hrt hnm hw hi d9 rfl (by rw [List.length_map]; exact hn) (by rw [ws_cat]; exact hsm) hd g1' k1
def g_X9_init (y : Int) (c : Cs) : Cs := cput (cnewl (cput c 12 0 y 0)) 12 1 y (c.1 2)
def nl (c : Cs) (ci k : Nat) (i : Int) : Cs := cput (cnewl c) ci k i (c.1 2)
def g_X5_init (q : Int) (c : Cs) : Cs := cput (nl (nl (nl (nl c 8 0 q) 8 1 q) 8 2 q) 8 3 q) 8 4 q 0
def cZ : Cs := (fun _ => 0, fun _ _ _ => 0, fun _ => [], 0)
def cH : Cs := nl (nl (nl (nl (nl (nl (nl (nl (nl (cnew cZ 13) 13 0 0) 13 1 0) 13 2 0) 13 3 0) 13 4 0) 13 5 0) 13 6 0) 13 7 0) 13 8 0
def cP : Cs := cput (cput (cput (g_X5_init 0 (cnew cH 8)) 13 9 0 0) 13 10 0 1) 13 11 0 0
def ya (c : Cs) : Cs := clst (g_X9_init (c.1 12) (cnew c 12)) 0 ((g_X9_init (c.1 12) (cnew c 12)).2.2.1 0 ++ [c.1 12])
def c00 : Cs := ya (ya (ya (ya cP)))
theorem s_X9_init {X : Cx} {ρ : Hp} {y : Int} {c : Cs} : Kr X ρ m_X9_init 5 [(12, y)] c (.inl none) (g_X9_init y c) := by
  refine Kr.of (by decide +kernel) rfl (Nat.le_of_ble_eq_true rfl) ?_
  refine Er.aload_n (i := 0) dX9_init_0 rfl rfl (Nat.le_of_ble_eq_true rfl) ?_
  refine Er.oinit ⟨(Nat.le_of_ble_eq_true rfl), (Nat.le_of_ble_eq_true rfl)⟩ (tb1 (i := 101) rfl) (Nat.le_of_ble_eq_true rfl) (Nat.le_of_ble_eq_true rfl) dX9_init_1 ?_
  refine Er.aload_n (i := 0) dX9_init_4 rfl rfl (Nat.le_of_ble_eq_true rfl) ?_
  refine Er.const dX9_init_5 ?_
  refine Er.pI (ci := 12) (k := 0) rfl (by decide) (by decide) (tb1 (i := 104) rfl) (Or.inl rfl) (Or.inl rfl) rfl rfl rfl dX9_init_6 ?_
  refine Er.aload_n (i := 0) dX9_init_9 rfl rfl (Nat.le_of_ble_eq_true rfl) ?_
  refine Er.newl (tb1 (i := 102) rfl) (tb1 (i := 45) rfl) (tb1 (i := 4) rfl) (tb1 (i := 103) rfl) dX9_init_10 dX9_init_13 dX9_init_14 (Nat.le_of_ble_eq_true rfl) (Nat.le_of_ble_eq_true rfl) ?_
  refine Er.pR (ci := 12) (k := 1) (t := 2) ⟨by decide, by decide, Or.inl rfl⟩ rfl rfl (by decide) (by decide) (tb1 (i := 106) rfl) (Or.inl rfl) (Or.inr ⟨rfl, rfl⟩) rfl dX9_init_17 ?_
  exact Er.vret rfl dX9_init_20 rfl rfl
theorem s_X5_init {X : Cx} {ρ : Hp} {q : Int} {c : Cs} : Kr X ρ m_X5_init 5 [(8, q)] c (.inl none) (g_X5_init q c) := by
  refine Kr.of (by decide +kernel) rfl (Nat.le_of_ble_eq_true rfl) ?_
  refine Er.aload_n (i := 0) dX5_init_0 rfl rfl (Nat.le_of_ble_eq_true rfl) ?_
  refine Er.oinit ⟨(Nat.le_of_ble_eq_true rfl), (Nat.le_of_ble_eq_true rfl)⟩ (tb1 (i := 75) rfl) (Nat.le_of_ble_eq_true rfl) (Nat.le_of_ble_eq_true rfl) dX5_init_1 ?_
  refine Er.aload_n (i := 0) dX5_init_4 rfl rfl (Nat.le_of_ble_eq_true rfl) ?_
  refine Er.newl (tb1 (i := 76) rfl) (tb1 (i := 45) rfl) (tb1 (i := 4) rfl) (tb1 (i := 77) rfl) dX5_init_5 dX5_init_8 dX5_init_9 (Nat.le_of_ble_eq_true rfl) (Nat.le_of_ble_eq_true rfl) ?_
  refine Er.pR (ci := 8) (k := 0) (t := 2) ⟨by decide, by decide, Or.inl rfl⟩ rfl rfl (by decide) (by decide) (tb1 (i := 78) rfl) (Or.inl rfl) (Or.inr ⟨rfl, rfl⟩) rfl dX5_init_12 ?_
  refine Er.aload_n (i := 0) dX5_init_15 rfl rfl (Nat.le_of_ble_eq_true rfl) ?_
  refine Er.newl (tb1 (i := 76) rfl) (tb1 (i := 45) rfl) (tb1 (i := 4) rfl) (tb1 (i := 77) rfl) dX5_init_16 dX5_init_19 dX5_init_20 (Nat.le_of_ble_eq_true rfl) (Nat.le_of_ble_eq_true rfl) ?_
  refine Er.pR (ci := 8) (k := 1) (t := 2) ⟨by decide, by decide, Or.inl rfl⟩ rfl rfl (by decide) (by decide) (tb1 (i := 80) rfl) (Or.inl rfl) (Or.inr ⟨rfl, rfl⟩) rfl dX5_init_23 ?_
  refine Er.aload_n (i := 0) dX5_init_26 rfl rfl (Nat.le_of_ble_eq_true rfl) ?_
  refine Er.newl (tb1 (i := 76) rfl) (tb1 (i := 45) rfl) (tb1 (i := 4) rfl) (tb1 (i := 77) rfl) dX5_init_27 dX5_init_30 dX5_init_31 (Nat.le_of_ble_eq_true rfl) (Nat.le_of_ble_eq_true rfl) ?_
  refine Er.pR (ci := 8) (k := 2) (t := 2) ⟨by decide, by decide, Or.inl rfl⟩ rfl rfl (by decide) (by decide) (tb1 (i := 82) rfl) (Or.inl rfl) (Or.inr ⟨rfl, rfl⟩) rfl dX5_init_34 ?_
  refine Er.aload_n (i := 0) dX5_init_37 rfl rfl (Nat.le_of_ble_eq_true rfl) ?_
  refine Er.newl (tb1 (i := 76) rfl) (tb1 (i := 45) rfl) (tb1 (i := 4) rfl) (tb1 (i := 77) rfl) dX5_init_38 dX5_init_41 dX5_init_42 (Nat.le_of_ble_eq_true rfl) (Nat.le_of_ble_eq_true rfl) ?_
  refine Er.pR (ci := 8) (k := 3) (t := 2) ⟨by decide, by decide, Or.inl rfl⟩ rfl rfl (by decide) (by decide) (tb1 (i := 83) rfl) (Or.inl rfl) (Or.inr ⟨rfl, rfl⟩) rfl dX5_init_45 ?_
  refine Er.aload_n (i := 0) dX5_init_48 rfl rfl (Nat.le_of_ble_eq_true rfl) ?_
  refine Er.const dX5_init_49 ?_
  refine Er.pI (ci := 8) (k := 4) rfl (by decide) (by decide) (tb1 (i := 84) rfl) (Or.inl rfl) (Or.inl rfl) rfl rfl rfl dX5_init_50 ?_
  exact Er.vret rfl dX5_init_53 rfl rfl
theorem s_X10_init {X : Cx} {ρ : Hp} : Kr X ρ m_X10_init 7 [(13, 0)] (cnew cZ 13) (.inl none) c00 := by
  refine Kr.of (by decide +kernel) rfl (Nat.le_of_ble_eq_true rfl) ?_
  refine Er.aload_n (i := 0) dX10_init_0 rfl rfl (Nat.le_of_ble_eq_true rfl) ?_
  refine Er.oinit ⟨(Nat.le_of_ble_eq_true rfl), (Nat.le_of_ble_eq_true rfl)⟩ (tb1 (i := 41) rfl) (Nat.le_of_ble_eq_true rfl) (Nat.le_of_ble_eq_true rfl) dX10_init_1 ?_
  refine Er.aload_n (i := 0) dX10_init_4 rfl rfl (Nat.le_of_ble_eq_true rfl) ?_
  refine Er.newl (tb1 (i := 44) rfl) (tb1 (i := 45) rfl) (tb1 (i := 4) rfl) (tb1 (i := 46) rfl) dX10_init_5 dX10_init_8 dX10_init_9 (Nat.le_of_ble_eq_true rfl) (Nat.le_of_ble_eq_true rfl) ?_
  refine Er.pR (ci := 13) (k := 0) (t := 2) ⟨by decide, by decide, Or.inl rfl⟩ rfl rfl (by decide) (by decide) (tb1 (i := 184) rfl) (Or.inl rfl) (Or.inr ⟨rfl, rfl⟩) rfl dX10_init_12 ?_
  refine Er.aload_n (i := 0) dX10_init_15 rfl rfl (Nat.le_of_ble_eq_true rfl) ?_
  refine Er.newl (tb1 (i := 44) rfl) (tb1 (i := 45) rfl) (tb1 (i := 4) rfl) (tb1 (i := 46) rfl) dX10_init_16 dX10_init_19 dX10_init_20 (Nat.le_of_ble_eq_true rfl) (Nat.le_of_ble_eq_true rfl) ?_
  refine Er.pR (ci := 13) (k := 1) (t := 2) ⟨by decide, by decide, Or.inl rfl⟩ rfl rfl (by decide) (by decide) (tb1 (i := 185) rfl) (Or.inl rfl) (Or.inr ⟨rfl, rfl⟩) rfl dX10_init_23 ?_
  refine Er.aload_n (i := 0) dX10_init_26 rfl rfl (Nat.le_of_ble_eq_true rfl) ?_
  refine Er.newl (tb1 (i := 44) rfl) (tb1 (i := 45) rfl) (tb1 (i := 4) rfl) (tb1 (i := 46) rfl) dX10_init_27 dX10_init_30 dX10_init_31 (Nat.le_of_ble_eq_true rfl) (Nat.le_of_ble_eq_true rfl) ?_
  refine Er.pR (ci := 13) (k := 2) (t := 2) ⟨by decide, by decide, Or.inl rfl⟩ rfl rfl (by decide) (by decide) (tb1 (i := 186) rfl) (Or.inl rfl) (Or.inr ⟨rfl, rfl⟩) rfl dX10_init_34 ?_
  refine Er.aload_n (i := 0) dX10_init_37 rfl rfl (Nat.le_of_ble_eq_true rfl) ?_
  refine Er.newl (tb1 (i := 44) rfl) (tb1 (i := 45) rfl) (tb1 (i := 4) rfl) (tb1 (i := 46) rfl) dX10_init_38 dX10_init_41 dX10_init_42 (Nat.le_of_ble_eq_true rfl) (Nat.le_of_ble_eq_true rfl) ?_
  refine Er.pR (ci := 13) (k := 3) (t := 2) ⟨by decide, by decide, Or.inl rfl⟩ rfl rfl (by decide) (by decide) (tb1 (i := 187) rfl) (Or.inl rfl) (Or.inr ⟨rfl, rfl⟩) rfl dX10_init_45 ?_
  refine Er.aload_n (i := 0) dX10_init_48 rfl rfl (Nat.le_of_ble_eq_true rfl) ?_
  refine Er.newl (tb1 (i := 44) rfl) (tb1 (i := 45) rfl) (tb1 (i := 4) rfl) (tb1 (i := 46) rfl) dX10_init_49 dX10_init_52 dX10_init_53 (Nat.le_of_ble_eq_true rfl) (Nat.le_of_ble_eq_true rfl) ?_
  refine Er.pR (ci := 13) (k := 4) (t := 2) ⟨by decide, by decide, Or.inl rfl⟩ rfl rfl (by decide) (by decide) (tb1 (i := 188) rfl) (Or.inl rfl) (Or.inr ⟨rfl, rfl⟩) rfl dX10_init_56 ?_
  refine Er.aload_n (i := 0) dX10_init_59 rfl rfl (Nat.le_of_ble_eq_true rfl) ?_
  refine Er.newl (tb1 (i := 44) rfl) (tb1 (i := 45) rfl) (tb1 (i := 4) rfl) (tb1 (i := 46) rfl) dX10_init_60 dX10_init_63 dX10_init_64 (Nat.le_of_ble_eq_true rfl) (Nat.le_of_ble_eq_true rfl) ?_
  refine Er.pR (ci := 13) (k := 5) (t := 2) ⟨by decide, by decide, Or.inl rfl⟩ rfl rfl (by decide) (by decide) (tb1 (i := 189) rfl) (Or.inl rfl) (Or.inr ⟨rfl, rfl⟩) rfl dX10_init_67 ?_
  refine Er.aload_n (i := 0) dX10_init_70 rfl rfl (Nat.le_of_ble_eq_true rfl) ?_
  refine Er.newl (tb1 (i := 44) rfl) (tb1 (i := 45) rfl) (tb1 (i := 4) rfl) (tb1 (i := 46) rfl) dX10_init_71 dX10_init_74 dX10_init_75 (Nat.le_of_ble_eq_true rfl) (Nat.le_of_ble_eq_true rfl) ?_
  refine Er.pR (ci := 13) (k := 6) (t := 2) ⟨by decide, by decide, Or.inl rfl⟩ rfl rfl (by decide) (by decide) (tb1 (i := 190) rfl) (Or.inl rfl) (Or.inr ⟨rfl, rfl⟩) rfl dX10_init_78 ?_
  refine Er.aload_n (i := 0) dX10_init_81 rfl rfl (Nat.le_of_ble_eq_true rfl) ?_
  refine Er.newl (tb1 (i := 44) rfl) (tb1 (i := 45) rfl) (tb1 (i := 4) rfl) (tb1 (i := 46) rfl) dX10_init_82 dX10_init_85 dX10_init_86 (Nat.le_of_ble_eq_true rfl) (Nat.le_of_ble_eq_true rfl) ?_
  refine Er.pR (ci := 13) (k := 7) (t := 2) ⟨by decide, by decide, Or.inl rfl⟩ rfl rfl (by decide) (by decide) (tb1 (i := 191) rfl) (Or.inl rfl) (Or.inr ⟨rfl, rfl⟩) rfl dX10_init_89 ?_
  refine Er.aload_n (i := 0) dX10_init_92 rfl rfl (Nat.le_of_ble_eq_true rfl) ?_
  refine Er.newl (tb1 (i := 44) rfl) (tb1 (i := 45) rfl) (tb1 (i := 4) rfl) (tb1 (i := 46) rfl) dX10_init_93 dX10_init_96 dX10_init_97 (Nat.le_of_ble_eq_true rfl) (Nat.le_of_ble_eq_true rfl) ?_
  refine Er.pR (ci := 13) (k := 8) (t := 2) ⟨by decide, by decide, Or.inl rfl⟩ rfl rfl (by decide) (by decide) (tb1 (i := 192) rfl) (Or.inl rfl) (Or.inr ⟨rfl, rfl⟩) rfl dX10_init_100 ?_
  refine Er.aload_n (i := 0) dX10_init_103 rfl rfl (Nat.le_of_ble_eq_true rfl) ?_
  refine Er.new (ci := 8) (N := 5) rfl (by decide) (by decide) (tb1 (i := 70) rfl) (tb1 (i := 71) rfl) (tb1 (i := 5) rfl) dX10_init_104 ?_
  refine Er.dup dX10_init_107 ?_
  refine Er.ciN (as := []) k_X5_init rfl rfl (by decide) (tb1 (i := 72) rfl) ki_X5_init dX10_init_108 rfl rfl (Nat.le_of_ble_eq_true rfl) (Nat.le_of_ble_eq_true rfl) s_X5_init ?_
  refine Er.pR (ci := 13) (k := 9) (t := 8) ⟨by decide, by decide, Or.inl rfl⟩ rfl rfl (by decide) (by decide) (tb1 (i := 193) rfl) (Or.inl rfl) (Or.inr ⟨rfl, rfl⟩) rfl dX10_init_111 ?_
  refine Er.aload_n (i := 0) dX10_init_114 rfl rfl (Nat.le_of_ble_eq_true rfl) ?_
  refine Er.const dX10_init_115 ?_
  refine Er.pI (ci := 13) (k := 10) rfl (by decide) (by decide) (tb1 (i := 194) rfl) (Or.inl rfl) (Or.inl rfl) rfl rfl rfl dX10_init_116 ?_
  refine Er.aload_n (i := 0) dX10_init_119 rfl rfl (Nat.le_of_ble_eq_true rfl) ?_
  refine Er.const dX10_init_120 ?_
  refine Er.pI (ci := 13) (k := 11) rfl (by decide) (by decide) (tb1 (i := 195) rfl) (Or.inl rfl) (Or.inl rfl) rfl rfl rfl dX10_init_121 ?_
  refine Er.const dX10_init_124 ?_
  refine Er.istore_n (i := 1) dX10_init_125 rfl (by decide) ?_
  refine Er.iload_n (i := 1) dX10_init_126 rfl rfl ?_
  refine Er.const dX10_init_127 ?_
  refine Er.icmp_ge_f (tgt := 154) dX10_init_128 (by decide) ⟨by decide, by decide⟩ ⟨by decide, by decide⟩ (by decide) ?_
  refine Er.aload_n (i := 0) dX10_init_131 rfl rfl (Nat.le_of_ble_eq_true rfl) ?_
  refine Er.gL (ci := 13) (k := 0) (t := 2) 0 (fun _ _ => ⟨by decide, by decide⟩) rfl (by decide) rfl (by decide) (by decide) (tb1 (i := 184) rfl) (Or.inl rfl) rfl dX10_init_132 ?_
  refine Er.new (ci := 12) (N := 2) rfl (by decide) (by decide) (tb1 (i := 96) rfl) (tb1 (i := 97) rfl) (tb1 (i := 6) rfl) dX10_init_135 ?_
  refine Er.dup dX10_init_138 ?_
  refine Er.ciN (as := []) k_X9_init rfl rfl (by decide) (tb1 (i := 98) rfl) ki_X9_init dX10_init_139 rfl rfl (Nat.le_of_ble_eq_true rfl) (Nat.le_of_ble_eq_true rfl) s_X9_init ?_
  refine Er.cf (as := [(12, 0)]) kf_Jx4a65c_add_9ea2d (tb1 (i := 113) rfl) dX10_init_142 rfl rfl (Nat.le_of_ble_eq_true rfl) (Nat.le_of_ble_eq_true rfl) (kr_add (t := 12) rfl (by decide) (by decide)) ?_
  refine Er.pop dX10_init_147 ?_
  refine Er.inc dX10_init_148 rfl (by decide) ?_
  refine Er.goto (tgt := 126) dX10_init_151 (by decide) ?_
  refine Er.iload_n (i := 1) dX10_init_126 rfl rfl ?_
  refine Er.const dX10_init_127 ?_
  refine Er.icmp_ge_f (tgt := 154) dX10_init_128 (by decide) ⟨by decide, by decide⟩ ⟨by decide, by decide⟩ (by decide) ?_
  refine Er.aload_n (i := 0) dX10_init_131 rfl rfl (Nat.le_of_ble_eq_true rfl) ?_
  refine Er.gL (ci := 13) (k := 0) (t := 2) 0 (fun _ _ => ⟨by decide, by decide⟩) rfl (by decide) rfl (by decide) (by decide) (tb1 (i := 184) rfl) (Or.inl rfl) rfl dX10_init_132 ?_
  refine Er.new (ci := 12) (N := 2) rfl (by decide) (by decide) (tb1 (i := 96) rfl) (tb1 (i := 97) rfl) (tb1 (i := 6) rfl) dX10_init_135 ?_
  refine Er.dup dX10_init_138 ?_
  refine Er.ciN (as := []) k_X9_init rfl rfl (by decide) (tb1 (i := 98) rfl) ki_X9_init dX10_init_139 rfl rfl (Nat.le_of_ble_eq_true rfl) (Nat.le_of_ble_eq_true rfl) s_X9_init ?_
  refine Er.cf (as := [(12, 1)]) kf_Jx4a65c_add_9ea2d (tb1 (i := 113) rfl) dX10_init_142 rfl rfl (Nat.le_of_ble_eq_true rfl) (Nat.le_of_ble_eq_true rfl) (kr_add (t := 12) rfl (by decide) (by decide)) ?_
  refine Er.pop dX10_init_147 ?_
  refine Er.inc dX10_init_148 rfl (by decide) ?_
  refine Er.goto (tgt := 126) dX10_init_151 (by decide) ?_
  refine Er.iload_n (i := 1) dX10_init_126 rfl rfl ?_
  refine Er.const dX10_init_127 ?_
  refine Er.icmp_ge_f (tgt := 154) dX10_init_128 (by decide) ⟨by decide, by decide⟩ ⟨by decide, by decide⟩ (by decide) ?_
  refine Er.aload_n (i := 0) dX10_init_131 rfl rfl (Nat.le_of_ble_eq_true rfl) ?_
  refine Er.gL (ci := 13) (k := 0) (t := 2) 0 (fun _ _ => ⟨by decide, by decide⟩) rfl (by decide) rfl (by decide) (by decide) (tb1 (i := 184) rfl) (Or.inl rfl) rfl dX10_init_132 ?_
  refine Er.new (ci := 12) (N := 2) rfl (by decide) (by decide) (tb1 (i := 96) rfl) (tb1 (i := 97) rfl) (tb1 (i := 6) rfl) dX10_init_135 ?_
  refine Er.dup dX10_init_138 ?_
  refine Er.ciN (as := []) k_X9_init rfl rfl (by decide) (tb1 (i := 98) rfl) ki_X9_init dX10_init_139 rfl rfl (Nat.le_of_ble_eq_true rfl) (Nat.le_of_ble_eq_true rfl) s_X9_init ?_
  refine Er.cf (as := [(12, 2)]) kf_Jx4a65c_add_9ea2d (tb1 (i := 113) rfl) dX10_init_142 rfl rfl (Nat.le_of_ble_eq_true rfl) (Nat.le_of_ble_eq_true rfl) (kr_add (t := 12) rfl (by decide) (by decide)) ?_
  refine Er.pop dX10_init_147 ?_
  refine Er.inc dX10_init_148 rfl (by decide) ?_
  refine Er.goto (tgt := 126) dX10_init_151 (by decide) ?_
  refine Er.iload_n (i := 1) dX10_init_126 rfl rfl ?_
  refine Er.const dX10_init_127 ?_
  refine Er.icmp_ge_f (tgt := 154) dX10_init_128 (by decide) ⟨by decide, by decide⟩ ⟨by decide, by decide⟩ (by decide) ?_
  refine Er.aload_n (i := 0) dX10_init_131 rfl rfl (Nat.le_of_ble_eq_true rfl) ?_
  refine Er.gL (ci := 13) (k := 0) (t := 2) 0 (fun _ _ => ⟨by decide, by decide⟩) rfl (by decide) rfl (by decide) (by decide) (tb1 (i := 184) rfl) (Or.inl rfl) rfl dX10_init_132 ?_
  refine Er.new (ci := 12) (N := 2) rfl (by decide) (by decide) (tb1 (i := 96) rfl) (tb1 (i := 97) rfl) (tb1 (i := 6) rfl) dX10_init_135 ?_
  refine Er.dup dX10_init_138 ?_
  refine Er.ciN (as := []) k_X9_init rfl rfl (by decide) (tb1 (i := 98) rfl) ki_X9_init dX10_init_139 rfl rfl (Nat.le_of_ble_eq_true rfl) (Nat.le_of_ble_eq_true rfl) s_X9_init ?_
  refine Er.cf (as := [(12, 3)]) kf_Jx4a65c_add_9ea2d (tb1 (i := 113) rfl) dX10_init_142 rfl rfl (Nat.le_of_ble_eq_true rfl) (Nat.le_of_ble_eq_true rfl) (kr_add (t := 12) rfl (by decide) (by decide)) ?_
  refine Er.pop dX10_init_147 ?_
  refine Er.inc dX10_init_148 rfl (by decide) ?_
  refine Er.goto (tgt := 126) dX10_init_151 (by decide) ?_
  refine Er.iload_n (i := 1) dX10_init_126 rfl rfl ?_
  refine Er.const dX10_init_127 ?_
  refine Er.icmp_ge_t (tgt := 154) dX10_init_128 (by decide) ⟨by decide, by decide⟩ ⟨by decide, by decide⟩ (by decide) ?_
  exact Er.vret rfl dX10_init_154 rfl rfl
