/-! refused calls on two new objects (printed by wip/gen/ref.py) -/
theorem zm_73 : zMt[73]? = some (yX6_bar, cX6_bar, 3, (some .int), 6, false) := rfl
theorem zd_73 (pc : Nat) : zdec 73 pc = zdl_73.lookup pc := rfl
theorem zm_74 : zMt[74]? = some (yX6_begin, cX6_begin, 3, (some .int), 6, false) := rfl
theorem zd_74 (pc : Nat) : zdec 74 pc = zdl_74.lookup pc := rfl
theorem zm_76 : zMt[76]? = some (yX6_closure, cX6_closure, 4, (some .int), 6, false) := rfl
theorem zd_76 (pc : Nat) : zdec 76 pc = zdl_76.lookup pc := rfl
theorem zm_77 : zMt[77]? = some (yX6_cluster, cX6_cluster, 4, (some .int), 6, false) := rfl
theorem zd_77 (pc : Nat) : zdec 77 pc = zdl_77.lookup pc := rfl
theorem zm_78 : zMt[78]? = some (yX6_coefficient, cX6_coefficient, 5, (some .int), 6, false) := rfl
theorem zd_78 (pc : Nat) : zdec 78 pc = zdl_78.lookup pc := rfl
theorem zm_80 : zMt[80]? = some (yX6_end, cX6_end, 3, (some .int), 6, false) := rfl
theorem zd_80 (pc : Nat) : zdec 80 pc = zdl_80.lookup pc := rfl
theorem zm_82 : zMt[82]? = some (yX6_implied, cX6_implied, 6, (some .int), 6, false) := rfl
theorem zd_82 (pc : Nat) : zdec 82 pc = zdl_82.lookup pc := rfl
theorem zm_87 : zMt[87]? = some (yX6_lacks, cX6_lacks, 3, (some .int), 6, false) := rfl
theorem zd_87 (pc : Nat) : zdec 87 pc = zdl_87.lookup pc := rfl
theorem zm_90 : zMt[90]? = some (yX6_many, cX6_many, 4, (some .int), 6, false) := rfl
theorem zd_90 (pc : Nat) : zdec 90 pc = zdl_90.lookup pc := rfl
theorem zm_93 : zMt[93]? = some (yX6_rank, cX6_rank, 4, (some .int), 6, false) := rfl
theorem zd_93 (pc : Nat) : zdec 93 pc = zdl_93.lookup pc := rfl
theorem zm_94 : zMt[94]? = some (yX6_rigid, cX6_rigid, 3, (some .int), 6, false) := rfl
theorem zd_94 (pc : Nat) : zdec 94 pc = zdl_94.lookup pc := rfl
theorem zm_95 : zMt[95]? = some (yX6_sign, cX6_sign, 4, (some .int), 6, false) := rfl
theorem zd_95 (pc : Nat) : zdec 95 pc = zdl_95.lookup pc := rfl
theorem zm_96 : zMt[96]? = some (yX6_spare, cX6_spare, 3, (some .int), 6, false) := rfl
theorem zd_96 (pc : Nat) : zdec 96 pc = zdl_96.lookup pc := rfl
theorem zm_99 : zMt[99]? = some (yX6_told, cX6_told, 5, (some .int), 6, false) := rfl
theorem zd_99 (pc : Nat) : zdec 99 pc = zdl_99.lookup pc := rfl
theorem zm_104 : zMt[104]? = some (yX7_bar, cX7_bar, 7, (some .int), 7, false) := rfl
theorem zd_104 (pc : Nat) : zdec 104 pc = zdl_104.lookup pc := rfl
theorem zm_106 : zMt[106]? = some (yX7_begin, cX7_begin, 4, (some .int), 7, false) := rfl
theorem zd_106 (pc : Nat) : zdec 106 pc = zdl_106.lookup pc := rfl
theorem zm_111 : zMt[111]? = some (yX7_closure, cX7_closure, 3, (some .int), 7, false) := rfl
theorem zd_111 (pc : Nat) : zdec 111 pc = zdl_111.lookup pc := rfl
theorem zm_113 : zMt[113]? = some (yX7_cluster, cX7_cluster, 8, (some .int), 7, false) := rfl
theorem zd_113 (pc : Nat) : zdec 113 pc = zdl_113.lookup pc := rfl
theorem zm_114 : zMt[114]? = some (yX7_coefficient, cX7_coefficient, 6, (some .int), 7, false) := rfl
theorem zd_114 (pc : Nat) : zdec 114 pc = zdl_114.lookup pc := rfl
theorem zm_117 : zMt[117]? = some (yX7_end, cX7_end, 3, (some .int), 7, false) := rfl
theorem zd_117 (pc : Nat) : zdec 117 pc = zdl_117.lookup pc := rfl
theorem zm_123 : zMt[123]? = some (yX7_holds, cX7_holds, 5, (some .int), 7, false) := rfl
theorem zd_123 (pc : Nat) : zdec 123 pc = zdl_123.lookup pc := rfl
theorem zm_124 : zMt[124]? = some (yX7_implied, cX7_implied, 5, (some .int), 7, false) := rfl
theorem zd_124 (pc : Nat) : zdec 124 pc = zdl_124.lookup pc := rfl
theorem zm_142 : zMt[142]? = some (yX7_lacks, cX7_lacks, 6, (some .int), 7, false) := rfl
theorem zd_142 (pc : Nat) : zdec 142 pc = zdl_142.lookup pc := rfl
theorem zm_144 : zMt[144]? = some (yX7_many, cX7_many, 5, (some .int), 7, false) := rfl
theorem zd_144 (pc : Nat) : zdec 144 pc = zdl_144.lookup pc := rfl
theorem zm_154 : zMt[154]? = some (yX7_rank, cX7_rank, 3, (some .int), 7, false) := rfl
theorem zd_154 (pc : Nat) : zdec 154 pc = zdl_154.lookup pc := rfl
theorem zm_158 : zMt[158]? = some (yX7_rigid, cX7_rigid, 2, (some .int), 7, false) := rfl
theorem zd_158 (pc : Nat) : zdec 158 pc = zdl_158.lookup pc := rfl
theorem zm_159 : zMt[159]? = some (yX7_sign, cX7_sign, 4, (some .int), 7, false) := rfl
theorem zd_159 (pc : Nat) : zdec 159 pc = zdl_159.lookup pc := rfl
theorem zm_160 : zMt[160]? = some (yX7_spare, cX7_spare, 2, (some .int), 7, false) := rfl
theorem zd_160 (pc : Nat) : zdec 160 pc = zdl_160.lookup pc := rfl
theorem zm_166 : zMt[166]? = some (yX7_told, cX7_told, 7, (some .int), 7, false) := rfl
theorem zd_166 (pc : Nat) : zdec 166 pc = zdl_166.lookup pc := rfl
theorem zq_6_45 : zcl 6 45 = some (3, 4, 84, 2) := by decide +kernel
theorem zq_6_63 : zcl 6 63 = some (3, 1, 14, 1) := by decide +kernel
theorem zq_6_82 : zcl 6 82 = some (3, 4, 91, 1) := by decide +kernel
theorem zq_7_77 : zcl 7 77 = some (3, 5, 132, 1) := by decide +kernel
theorem zq_7_158 : zcl 7 158 = some (3, 5, 138, 1) := by decide +kernel
theorem zq_7_161 : zcl 7 161 = some (3, 5, 137, 1) := by decide +kernel
theorem zqv_6_45_4 : zclv 6 45 4 = some (3, 4, 84, 2) := by decide +kernel
theorem zqv_6_63_1 : zclv 6 63 1 = some (3, 1, 14, 1) := by decide +kernel
theorem zqv_6_82_4 : zclv 6 82 4 = some (3, 4, 91, 1) := by decide +kernel
theorem zqv_7_77_5 : zclv 7 77 5 = some (3, 5, 132, 1) := by decide +kernel
theorem zqv_7_158_5 : zclv 7 158 5 = some (3, 5, 138, 1) := by decide +kernel
theorem zqv_7_161_5 : zclv 7 161 5 = some (3, 5, 137, 1) := by decide +kernel
theorem z3 {v : Int32} (h : v < 0 ∨ 2 < v) : v < 0 ∨ (3 : Int32) ≤ v := by
  refine h.imp id fun h => ?_
  rw [Int32.lt_iff_toInt_lt] at h
  rw [Int32.le_iff_toInt_le]
  have e2 : (2 : Int32).toInt = 2 := rfl
  have e3 : (3 : Int32).toInt = 3 := rfl
  omega
theorem zany {v : Int32} : v < 0 ∨ (0 : Int32) ≤ v := by
  by_cases h : v < 0
  · exact Or.inl h
  · exact Or.inr (Int32.not_lt.mp h)
theorem zany1 {v : Int32} : v < 0 ∨ (0 : Int32) - 1 < v := by
  by_cases h : v < 0
  · exact Or.inl h
  · refine Or.inr ?_
    rw [Int32.lt_iff_toInt_lt] at h ⊢
    have e0 : (0 : Int32).toInt = 0 := rfl
    have e1 : ((0 : Int32) - 1).toInt = -1 := rfl
    omega
theorem s_rigid {d : Nat} {w : zW} {v : Int32} {q1 q2 : Value} (hX : w.1 1 = some (.inr (4, [.ref 2, q1, q2]))) (h : v < 0 ∨ 2 < v) : zmet (d + 1) 94 [.ref 1, .int v] w (some (.int (-2))) w := by
  refine ⟨_, rfl, Nat.le_of_ble_eq_true rfl, ?_⟩
  show zev (d + 1) 94 0 [some (.ref 1), some (.int v), none] [] w _ _
  refine zt (pc' := 1) ((zd_94 _).trans rfl) zm_94 rfl rfl ?_
  refine zt (pc' := 2) ((zd_94 _).trans rfl) zm_94 rfl rfl ?_
  refine zt_V (pc' := 5) ((zd_94 _).trans rfl) zm_94 rfl zq_6_82 rfl (Nat.le_of_ble_eq_true rfl) hX zqv_6_82_4 (by decide) rfl (c_matroidOf0 (z3 h)) ?_
  refine zt (pc' := 6) ((zd_94 _).trans rfl) zm_94 rfl rfl ?_
  refine zt (pc' := 7) ((zd_94 _).trans rfl) zm_94 rfl rfl ?_
  refine zt (pc' := 10) ((zd_94 _).trans rfl) zm_94 rfl rfl ?_
  refine zt (pc' := 12) ((zd_94 _).trans rfl) zm_94 rfl rfl ?_
  exact zte ((zd_94 _).trans rfl) zm_94 rfl
theorem t_rigid {d : Nat} {w : zW} {v : Int32} {ms : List Value} {pl : Value} (hM : w.1 9 = some (.inr (5, .int 1 :: pl :: .int 0 :: ms))) (h : v < 0 ∨ 2 < v) : zmet (d + 2) 158 [.ref 9, .int v] w (some (.int (-2))) w := by
  refine ⟨_, rfl, Nat.le_of_ble_eq_true rfl, ?_⟩
  show zev (d + 2) 158 0 [some (.ref 9), some (.int v)] [] w _ _
  refine zt (pc' := 1) ((zd_158 _).trans rfl) zm_158 rfl rfl ?_
  refine zt (pc' := 2) ((zd_158 _).trans rfl) zm_158 rfl rfl ?_
  refine zt_V (pc' := 5) ((zd_158 _).trans rfl) zm_158 rfl zq_7_158 rfl (Nat.le_of_ble_eq_true rfl) hM zqv_7_158_5 (by decide) rfl (c_isSort0 hM h) ?_
  refine zt_ifF (tgt := 13) (pc' := 8) ((zd_158 _).trans rfl) zm_158 rfl rfl (znne rfl) ?_
  refine zt (pc' := 10) ((zd_158 _).trans rfl) zm_158 rfl rfl ?_
  refine zt (pc' := 26) ((zd_158 _).trans rfl) zm_158 rfl rfl ?_
  exact zte ((zd_158 _).trans rfl) zm_158 rfl
theorem s_lacks {d : Nat} {w : zW} {v : Int32} {q1 q2 : Value} (hX : w.1 1 = some (.inr (4, [.ref 2, q1, q2]))) (h : v < 0 ∨ 2 < v) : zmet (d + 1) 87 [.ref 1, .int v] w (some (.int (-2))) w := by
  refine ⟨_, rfl, Nat.le_of_ble_eq_true rfl, ?_⟩
  show zev (d + 1) 87 0 [some (.ref 1), some (.int v), none] [] w _ _
  refine zt (pc' := 1) ((zd_87 _).trans rfl) zm_87 rfl rfl ?_
  refine zt (pc' := 2) ((zd_87 _).trans rfl) zm_87 rfl rfl ?_
  refine zt_V (pc' := 5) ((zd_87 _).trans rfl) zm_87 rfl zq_6_82 rfl (Nat.le_of_ble_eq_true rfl) hX zqv_6_82_4 (by decide) rfl (c_matroidOf0 (z3 h)) ?_
  refine zt (pc' := 6) ((zd_87 _).trans rfl) zm_87 rfl rfl ?_
  refine zt (pc' := 7) ((zd_87 _).trans rfl) zm_87 rfl rfl ?_
  refine zt (pc' := 10) ((zd_87 _).trans rfl) zm_87 rfl rfl ?_
  refine zt (pc' := 12) ((zd_87 _).trans rfl) zm_87 rfl rfl ?_
  exact zte ((zd_87 _).trans rfl) zm_87 rfl
theorem t_lacks {d : Nat} {w : zW} {v : Int32} {ms : List Value} {pl : Value} (hM : w.1 9 = some (.inr (5, .int 1 :: pl :: .int 0 :: ms))) (h : v < 0 ∨ 2 < v) : zmet (d + 2) 142 [.ref 9, .int v] w (some (.int (-2))) w := by
  refine ⟨_, rfl, Nat.le_of_ble_eq_true rfl, ?_⟩
  show zev (d + 2) 142 0 [some (.ref 9), some (.int v), none, none, none, none] [] w _ _
  refine zt (pc' := 1) ((zd_142 _).trans rfl) zm_142 rfl rfl ?_
  refine zt (pc' := 2) ((zd_142 _).trans rfl) zm_142 rfl rfl ?_
  refine zt_V (pc' := 5) ((zd_142 _).trans rfl) zm_142 rfl zq_7_158 rfl (Nat.le_of_ble_eq_true rfl) hM zqv_7_158_5 (by decide) rfl (c_isSort0 hM h) ?_
  refine zt_ifF (tgt := 11) (pc' := 8) ((zd_142 _).trans rfl) zm_142 rfl rfl (znne rfl) ?_
  refine zt (pc' := 10) ((zd_142 _).trans rfl) zm_142 rfl rfl ?_
  exact zte ((zd_142 _).trans rfl) zm_142 rfl
theorem s_spare {d : Nat} {w : zW} {v : Int32} {q1 q2 : Value} (hX : w.1 1 = some (.inr (4, [.ref 2, q1, q2]))) (h : v < 0 ∨ 2 < v) : zmet (d + 1) 96 [.ref 1, .int v] w (some (.int (-2))) w := by
  refine ⟨_, rfl, Nat.le_of_ble_eq_true rfl, ?_⟩
  show zev (d + 1) 96 0 [some (.ref 1), some (.int v), none] [] w _ _
  refine zt (pc' := 1) ((zd_96 _).trans rfl) zm_96 rfl rfl ?_
  refine zt (pc' := 2) ((zd_96 _).trans rfl) zm_96 rfl rfl ?_
  refine zt_V (pc' := 5) ((zd_96 _).trans rfl) zm_96 rfl zq_6_82 rfl (Nat.le_of_ble_eq_true rfl) hX zqv_6_82_4 (by decide) rfl (c_matroidOf0 (z3 h)) ?_
  refine zt (pc' := 6) ((zd_96 _).trans rfl) zm_96 rfl rfl ?_
  refine zt (pc' := 7) ((zd_96 _).trans rfl) zm_96 rfl rfl ?_
  refine zt (pc' := 10) ((zd_96 _).trans rfl) zm_96 rfl rfl ?_
  refine zt (pc' := 12) ((zd_96 _).trans rfl) zm_96 rfl rfl ?_
  exact zte ((zd_96 _).trans rfl) zm_96 rfl
theorem t_spare {d : Nat} {w : zW} {v : Int32} {ms : List Value} {pl : Value} (hM : w.1 9 = some (.inr (5, .int 1 :: pl :: .int 0 :: ms))) (h : v < 0 ∨ 2 < v) : zmet (d + 2) 160 [.ref 9, .int v] w (some (.int (-2))) w := by
  refine ⟨_, rfl, Nat.le_of_ble_eq_true rfl, ?_⟩
  show zev (d + 2) 160 0 [some (.ref 9), some (.int v)] [] w _ _
  refine zt (pc' := 1) ((zd_160 _).trans rfl) zm_160 rfl rfl ?_
  refine zt (pc' := 2) ((zd_160 _).trans rfl) zm_160 rfl rfl ?_
  refine zt_V (pc' := 5) ((zd_160 _).trans rfl) zm_160 rfl zq_7_158 rfl (Nat.le_of_ble_eq_true rfl) hM zqv_7_158_5 (by decide) rfl (c_isSort0 hM h) ?_
  refine zt_ifT (tgt := 16) (pc' := 8) ((zd_160 _).trans rfl) zm_160 rfl rfl (zeq rfl) ?_
  refine zt (pc' := 18) ((zd_160 _).trans rfl) zm_160 rfl rfl ?_
  exact zte ((zd_160 _).trans rfl) zm_160 rfl
theorem s_rank {d : Nat} {w : zW} {v b : Int32} {q1 q2 : Value} (hX : w.1 1 = some (.inr (4, [.ref 2, q1, q2]))) (h : v < 0 ∨ 2 < v) : zmet (d + 1) 93 [.ref 1, .int v, .int b] w (some (.int (-2))) w := by
  refine ⟨_, rfl, Nat.le_of_ble_eq_true rfl, ?_⟩
  show zev (d + 1) 93 0 [some (.ref 1), some (.int v), some (.int b), none] [] w _ _
  refine zt (pc' := 1) ((zd_93 _).trans rfl) zm_93 rfl rfl ?_
  refine zt (pc' := 2) ((zd_93 _).trans rfl) zm_93 rfl rfl ?_
  refine zt_V (pc' := 5) ((zd_93 _).trans rfl) zm_93 rfl zq_6_82 rfl (Nat.le_of_ble_eq_true rfl) hX zqv_6_82_4 (by decide) rfl (c_matroidOf0 (z3 h)) ?_
  refine zt (pc' := 6) ((zd_93 _).trans rfl) zm_93 rfl rfl ?_
  refine zt (pc' := 7) ((zd_93 _).trans rfl) zm_93 rfl rfl ?_
  refine zt (pc' := 21) ((zd_93 _).trans rfl) zm_93 rfl rfl ?_
  refine zt (pc' := 23) ((zd_93 _).trans rfl) zm_93 rfl rfl ?_
  exact zte ((zd_93 _).trans rfl) zm_93 rfl
theorem t_rank {d : Nat} {w : zW} {v b : Int32} {ms : List Value} {pl : Value} (hM : w.1 9 = some (.inr (5, .int 1 :: pl :: .int 0 :: ms))) (h : v < 0 ∨ 2 < v) : zmet (d + 2) 154 [.ref 9, .int v, .int b] w (some (.int (-2))) w := by
  refine ⟨_, rfl, Nat.le_of_ble_eq_true rfl, ?_⟩
  show zev (d + 2) 154 0 [some (.ref 9), some (.int v), some (.int b)] [] w _ _
  refine zt (pc' := 1) ((zd_154 _).trans rfl) zm_154 rfl rfl ?_
  refine zt (pc' := 2) ((zd_154 _).trans rfl) zm_154 rfl rfl ?_
  refine zt_V (pc' := 5) ((zd_154 _).trans rfl) zm_154 rfl zq_7_158 rfl (Nat.le_of_ble_eq_true rfl) hM zqv_7_158_5 (by decide) rfl (c_isSort0 hM h) ?_
  refine zt_ifT (tgt := 25) (pc' := 8) ((zd_154 _).trans rfl) zm_154 rfl rfl (zeq rfl) ?_
  refine zt (pc' := 27) ((zd_154 _).trans rfl) zm_154 rfl rfl ?_
  exact zte ((zd_154 _).trans rfl) zm_154 rfl
theorem s_closure {d : Nat} {w : zW} {v b : Int32} {q1 q2 : Value} (hX : w.1 1 = some (.inr (4, [.ref 2, q1, q2]))) (h : v < 0 ∨ 2 < v) : zmet (d + 1) 76 [.ref 1, .int v, .int b] w (some (.int (-2))) w := by
  refine ⟨_, rfl, Nat.le_of_ble_eq_true rfl, ?_⟩
  show zev (d + 1) 76 0 [some (.ref 1), some (.int v), some (.int b), none] [] w _ _
  refine zt (pc' := 1) ((zd_76 _).trans rfl) zm_76 rfl rfl ?_
  refine zt (pc' := 2) ((zd_76 _).trans rfl) zm_76 rfl rfl ?_
  refine zt_V (pc' := 5) ((zd_76 _).trans rfl) zm_76 rfl zq_6_82 rfl (Nat.le_of_ble_eq_true rfl) hX zqv_6_82_4 (by decide) rfl (c_matroidOf0 (z3 h)) ?_
  refine zt (pc' := 6) ((zd_76 _).trans rfl) zm_76 rfl rfl ?_
  refine zt (pc' := 7) ((zd_76 _).trans rfl) zm_76 rfl rfl ?_
  refine zt (pc' := 21) ((zd_76 _).trans rfl) zm_76 rfl rfl ?_
  refine zt (pc' := 23) ((zd_76 _).trans rfl) zm_76 rfl rfl ?_
  exact zte ((zd_76 _).trans rfl) zm_76 rfl
theorem t_closure {d : Nat} {w : zW} {v b : Int32} {ms : List Value} {pl : Value} (hM : w.1 9 = some (.inr (5, .int 1 :: pl :: .int 0 :: ms))) (h : v < 0 ∨ 2 < v) : zmet (d + 2) 111 [.ref 9, .int v, .int b] w (some (.int (-2))) w := by
  refine ⟨_, rfl, Nat.le_of_ble_eq_true rfl, ?_⟩
  show zev (d + 2) 111 0 [some (.ref 9), some (.int v), some (.int b)] [] w _ _
  refine zt (pc' := 1) ((zd_111 _).trans rfl) zm_111 rfl rfl ?_
  refine zt (pc' := 2) ((zd_111 _).trans rfl) zm_111 rfl rfl ?_
  refine zt_V (pc' := 5) ((zd_111 _).trans rfl) zm_111 rfl zq_7_158 rfl (Nat.le_of_ble_eq_true rfl) hM zqv_7_158_5 (by decide) rfl (c_isSort0 hM h) ?_
  refine zt_ifT (tgt := 25) (pc' := 8) ((zd_111 _).trans rfl) zm_111 rfl rfl (zeq rfl) ?_
  refine zt (pc' := 27) ((zd_111 _).trans rfl) zm_111 rfl rfl ?_
  exact zte ((zd_111 _).trans rfl) zm_111 rfl
theorem s_implied {d : Nat} {w : zW} {v a b c : Int32} {q1 q2 : Value} (hX : w.1 1 = some (.inr (4, [.ref 2, q1, q2]))) (h : v < 0 ∨ 2 < v) : zmet (d + 1) 82 [.ref 1, .int v, .int a, .int b, .int c] w (some (.int (-2))) w := by
  refine ⟨_, rfl, Nat.le_of_ble_eq_true rfl, ?_⟩
  show zev (d + 1) 82 0 [some (.ref 1), some (.int v), some (.int a), some (.int b), some (.int c), none] [] w _ _
  refine zt (pc' := 1) ((zd_82 _).trans rfl) zm_82 rfl rfl ?_
  refine zt (pc' := 2) ((zd_82 _).trans rfl) zm_82 rfl rfl ?_
  refine zt_V (pc' := 5) ((zd_82 _).trans rfl) zm_82 rfl zq_6_82 rfl (Nat.le_of_ble_eq_true rfl) hX zqv_6_82_4 (by decide) rfl (c_matroidOf0 (z3 h)) ?_
  refine zt (pc' := 7) ((zd_82 _).trans rfl) zm_82 rfl rfl ?_
  refine zt (pc' := 9) ((zd_82 _).trans rfl) zm_82 rfl rfl ?_
  refine zt (pc' := 33) ((zd_82 _).trans rfl) zm_82 rfl rfl ?_
  refine zt (pc' := 35) ((zd_82 _).trans rfl) zm_82 rfl rfl ?_
  exact zte ((zd_82 _).trans rfl) zm_82 rfl
theorem t_implied {d : Nat} {w : zW} {v a b c : Int32} {ms : List Value} {pl : Value} (hM : w.1 9 = some (.inr (5, .int 1 :: pl :: .int 0 :: ms))) (h : v < 0 ∨ 2 < v) : zmet (d + 2) 124 [.ref 9, .int v, .int a, .int b, .int c] w (some (.int (-2))) w := by
  refine ⟨_, rfl, Nat.le_of_ble_eq_true rfl, ?_⟩
  show zev (d + 2) 124 0 [some (.ref 9), some (.int v), some (.int a), some (.int b), some (.int c)] [] w _ _
  refine zt (pc' := 1) ((zd_124 _).trans rfl) zm_124 rfl rfl ?_
  refine zt (pc' := 2) ((zd_124 _).trans rfl) zm_124 rfl rfl ?_
  refine zt_V (pc' := 5) ((zd_124 _).trans rfl) zm_124 rfl zq_7_158 rfl (Nat.le_of_ble_eq_true rfl) hM zqv_7_158_5 (by decide) rfl (c_isSort0 hM h) ?_
  refine zt_ifT (tgt := 38) (pc' := 8) ((zd_124 _).trans rfl) zm_124 rfl rfl (zeq rfl) ?_
  refine zt (pc' := 40) ((zd_124 _).trans rfl) zm_124 rfl rfl ?_
  exact zte ((zd_124 _).trans rfl) zm_124 rfl
theorem s_many {d : Nat} {w : zW} {v b : Int32} {q1 q2 : Value} (hX : w.1 1 = some (.inr (4, [.ref 2, q1, q2]))) (h : v < 0 ∨ 2 < v) : zmet (d + 1) 90 [.ref 1, .int v, .int b] w (some (.int (-2))) w := by
  refine ⟨_, rfl, Nat.le_of_ble_eq_true rfl, ?_⟩
  show zev (d + 1) 90 0 [some (.ref 1), some (.int v), some (.int b), none] [] w _ _
  refine zt (pc' := 1) ((zd_90 _).trans rfl) zm_90 rfl rfl ?_
  refine zt (pc' := 2) ((zd_90 _).trans rfl) zm_90 rfl rfl ?_
  refine zt_V (pc' := 5) ((zd_90 _).trans rfl) zm_90 rfl zq_6_82 rfl (Nat.le_of_ble_eq_true rfl) hX zqv_6_82_4 (by decide) rfl (c_matroidOf0 (z3 h)) ?_
  refine zt (pc' := 6) ((zd_90 _).trans rfl) zm_90 rfl rfl ?_
  refine zt (pc' := 7) ((zd_90 _).trans rfl) zm_90 rfl rfl ?_
  refine zt (pc' := 20) ((zd_90 _).trans rfl) zm_90 rfl rfl ?_
  refine zt (pc' := 22) ((zd_90 _).trans rfl) zm_90 rfl rfl ?_
  exact zte ((zd_90 _).trans rfl) zm_90 rfl
theorem t_many {d : Nat} {w : zW} {v b : Int32} {ms : List Value} {pl : Value} (hM : w.1 9 = some (.inr (5, .int 1 :: pl :: .int 0 :: ms))) (h : v < 0 ∨ 2 < v) : zmet (d + 2) 144 [.ref 9, .int v, .int b] w (some (.int (-2))) w := by
  refine ⟨_, rfl, Nat.le_of_ble_eq_true rfl, ?_⟩
  show zev (d + 2) 144 0 [some (.ref 9), some (.int v), some (.int b), none, none] [] w _ _
  refine zt (pc' := 1) ((zd_144 _).trans rfl) zm_144 rfl rfl ?_
  refine zt (pc' := 2) ((zd_144 _).trans rfl) zm_144 rfl rfl ?_
  refine zt_V (pc' := 5) ((zd_144 _).trans rfl) zm_144 rfl zq_7_158 rfl (Nat.le_of_ble_eq_true rfl) hM zqv_7_158_5 (by decide) rfl (c_isSort0 hM h) ?_
  refine zt_ifT (tgt := 18) (pc' := 8) ((zd_144 _).trans rfl) zm_144 rfl rfl (zeq rfl) ?_
  refine zt (pc' := 20) ((zd_144 _).trans rfl) zm_144 rfl rfl ?_
  exact zte ((zd_144 _).trans rfl) zm_144 rfl
theorem s_told {d : Nat} {w : zW} {v b c : Int32} {q1 q2 : Value} (hX : w.1 1 = some (.inr (4, [.ref 2, q1, q2]))) (h : v < 0 ∨ 2 < v) : zmet (d + 1) 99 [.ref 1, .int v, .int b, .int c] w (some (.int (-2))) w := by
  refine ⟨_, rfl, Nat.le_of_ble_eq_true rfl, ?_⟩
  show zev (d + 1) 99 0 [some (.ref 1), some (.int v), some (.int b), some (.int c), none] [] w _ _
  refine zt (pc' := 1) ((zd_99 _).trans rfl) zm_99 rfl rfl ?_
  refine zt (pc' := 2) ((zd_99 _).trans rfl) zm_99 rfl rfl ?_
  refine zt_V (pc' := 5) ((zd_99 _).trans rfl) zm_99 rfl zq_6_82 rfl (Nat.le_of_ble_eq_true rfl) hX zqv_6_82_4 (by decide) rfl (c_matroidOf0 (z3 h)) ?_
  refine zt (pc' := 7) ((zd_99 _).trans rfl) zm_99 rfl rfl ?_
  refine zt (pc' := 9) ((zd_99 _).trans rfl) zm_99 rfl rfl ?_
  refine zt (pc' := 22) ((zd_99 _).trans rfl) zm_99 rfl rfl ?_
  refine zt (pc' := 24) ((zd_99 _).trans rfl) zm_99 rfl rfl ?_
  exact zte ((zd_99 _).trans rfl) zm_99 rfl
theorem t_told {d : Nat} {w : zW} {v b c : Int32} {ms : List Value} {pl : Value} (hM : w.1 9 = some (.inr (5, .int 1 :: pl :: .int 0 :: ms))) (h : v < 0 ∨ 2 < v) : zmet (d + 2) 166 [.ref 9, .int v, .int b, .int c] w (some (.int (-2))) w := by
  refine ⟨_, rfl, Nat.le_of_ble_eq_true rfl, ?_⟩
  show zev (d + 2) 166 0 [some (.ref 9), some (.int v), some (.int b), some (.int c), none, none, none] [] w _ _
  refine zt (pc' := 1) ((zd_166 _).trans rfl) zm_166 rfl rfl ?_
  refine zt (pc' := 2) ((zd_166 _).trans rfl) zm_166 rfl rfl ?_
  refine zt_V (pc' := 5) ((zd_166 _).trans rfl) zm_166 rfl zq_7_158 rfl (Nat.le_of_ble_eq_true rfl) hM zqv_7_158_5 (by decide) rfl (c_isSort0 hM h) ?_
  refine zt_ifT (tgt := 18) (pc' := 8) ((zd_166 _).trans rfl) zm_166 rfl rfl (zeq rfl) ?_
  refine zt (pc' := 20) ((zd_166 _).trans rfl) zm_166 rfl rfl ?_
  exact zte ((zd_166 _).trans rfl) zm_166 rfl
theorem s_coefficient {d : Nat} {w : zW} {v b c : Int32} {q1 q2 : Value} (hX : w.1 1 = some (.inr (4, [.ref 2, q1, q2]))) (h : v < 0 ∨ 2 < v) : zmet (d + 1) 78 [.ref 1, .int v, .int b, .int c] w (some (.int (-2))) w := by
  refine ⟨_, rfl, Nat.le_of_ble_eq_true rfl, ?_⟩
  show zev (d + 1) 78 0 [some (.ref 1), some (.int v), some (.int b), some (.int c), none] [] w _ _
  refine zt (pc' := 1) ((zd_78 _).trans rfl) zm_78 rfl rfl ?_
  refine zt (pc' := 2) ((zd_78 _).trans rfl) zm_78 rfl rfl ?_
  refine zt_V (pc' := 5) ((zd_78 _).trans rfl) zm_78 rfl zq_6_82 rfl (Nat.le_of_ble_eq_true rfl) hX zqv_6_82_4 (by decide) rfl (c_matroidOf0 (z3 h)) ?_
  refine zt (pc' := 7) ((zd_78 _).trans rfl) zm_78 rfl rfl ?_
  refine zt (pc' := 9) ((zd_78 _).trans rfl) zm_78 rfl rfl ?_
  refine zt (pc' := 12) ((zd_78 _).trans rfl) zm_78 rfl rfl ?_
  refine zt (pc' := 14) ((zd_78 _).trans rfl) zm_78 rfl rfl ?_
  exact zte ((zd_78 _).trans rfl) zm_78 rfl
theorem t_coefficient {d : Nat} {w : zW} {v b c : Int32} {ms : List Value} {pl : Value} (hM : w.1 9 = some (.inr (5, .int 1 :: pl :: .int 0 :: ms))) (h : v < 0 ∨ 2 < v) : zmet (d + 2) 114 [.ref 9, .int v, .int b, .int c] w (some (.int (-2))) w := by
  refine ⟨_, rfl, Nat.le_of_ble_eq_true rfl, ?_⟩
  show zev (d + 2) 114 0 [some (.ref 9), some (.int v), some (.int b), some (.int c), none, none] [] w _ _
  refine zt (pc' := 1) ((zd_114 _).trans rfl) zm_114 rfl rfl ?_
  refine zt (pc' := 2) ((zd_114 _).trans rfl) zm_114 rfl rfl ?_
  refine zt_V (pc' := 5) ((zd_114 _).trans rfl) zm_114 rfl zq_7_158 rfl (Nat.le_of_ble_eq_true rfl) hM zqv_7_158_5 (by decide) rfl (c_isSort0 hM h) ?_
  refine zt_ifF (tgt := 11) (pc' := 8) ((zd_114 _).trans rfl) zm_114 rfl rfl (znne rfl) ?_
  refine zt (pc' := 10) ((zd_114 _).trans rfl) zm_114 rfl rfl ?_
  exact zte ((zd_114 _).trans rfl) zm_114 rfl
theorem s_cluster {d : Nat} {w : zW} {v b : Int32} {q1 q2 : Value} (hX : w.1 1 = some (.inr (4, [.ref 2, q1, q2]))) (h : v < 0 ∨ 2 < v) : zmet (d + 1) 77 [.ref 1, .int v, .int b] w (some (.int (-2))) w := by
  refine ⟨_, rfl, Nat.le_of_ble_eq_true rfl, ?_⟩
  show zev (d + 1) 77 0 [some (.ref 1), some (.int v), some (.int b), none] [] w _ _
  refine zt (pc' := 1) ((zd_77 _).trans rfl) zm_77 rfl rfl ?_
  refine zt (pc' := 2) ((zd_77 _).trans rfl) zm_77 rfl rfl ?_
  refine zt_V (pc' := 5) ((zd_77 _).trans rfl) zm_77 rfl zq_6_82 rfl (Nat.le_of_ble_eq_true rfl) hX zqv_6_82_4 (by decide) rfl (c_matroidOf0 (z3 h)) ?_
  refine zt (pc' := 6) ((zd_77 _).trans rfl) zm_77 rfl rfl ?_
  refine zt (pc' := 7) ((zd_77 _).trans rfl) zm_77 rfl rfl ?_
  refine zt (pc' := 10) ((zd_77 _).trans rfl) zm_77 rfl rfl ?_
  refine zt (pc' := 12) ((zd_77 _).trans rfl) zm_77 rfl rfl ?_
  exact zte ((zd_77 _).trans rfl) zm_77 rfl
theorem t_cluster {d : Nat} {w : zW} {v b : Int32} {ms : List Value} {pl : Value} (hM : w.1 9 = some (.inr (5, .int 1 :: pl :: .int 0 :: ms))) (h : v < 0 ∨ 2 < v) : zmet (d + 2) 113 [.ref 9, .int v, .int b] w (some (.int (-2))) w := by
  refine ⟨_, rfl, Nat.le_of_ble_eq_true rfl, ?_⟩
  show zev (d + 2) 113 0 [some (.ref 9), some (.int v), some (.int b), none, none, none, none, none] [] w _ _
  refine zt (pc' := 1) ((zd_113 _).trans rfl) zm_113 rfl rfl ?_
  refine zt (pc' := 2) ((zd_113 _).trans rfl) zm_113 rfl rfl ?_
  refine zt_V (pc' := 5) ((zd_113 _).trans rfl) zm_113 rfl zq_7_158 rfl (Nat.le_of_ble_eq_true rfl) hM zqv_7_158_5 (by decide) rfl (c_isSort0 hM h) ?_
  refine zt_ifF (tgt := 11) (pc' := 8) ((zd_113 _).trans rfl) zm_113 rfl rfl (znne rfl) ?_
  refine zt (pc' := 10) ((zd_113 _).trans rfl) zm_113 rfl rfl ?_
  exact zte ((zd_113 _).trans rfl) zm_113 rfl
theorem t_holds {d : Nat} {w : zW} {v : Int32} {ms : List Value} {pl : Value} (hM : w.1 9 = some (.inr (5, .int 1 :: pl :: .int 0 :: ms))) (h : v < 0 ∨ 2 < v) : zmet (d + 2) 123 [.ref 9, .int v] w (some (.int (-2))) w := by
  refine ⟨_, rfl, Nat.le_of_ble_eq_true rfl, ?_⟩
  show zev (d + 2) 123 0 [some (.ref 9), some (.int v), none, none, none] [] w _ _
  refine zt (pc' := 1) ((zd_123 _).trans rfl) zm_123 rfl rfl ?_
  refine zt (pc' := 2) ((zd_123 _).trans rfl) zm_123 rfl rfl ?_
  refine zt_V (pc' := 5) ((zd_123 _).trans rfl) zm_123 rfl zq_7_158 rfl (Nat.le_of_ble_eq_true rfl) hM zqv_7_158_5 (by decide) rfl (c_isSort0 hM h) ?_
  refine zt_ifT (tgt := 13) (pc' := 8) ((zd_123 _).trans rfl) zm_123 rfl rfl (zeq rfl) ?_
  refine zt (pc' := 15) ((zd_123 _).trans rfl) zm_123 rfl rfl ?_
  exact zte ((zd_123 _).trans rfl) zm_123 rfl
theorem s_sign {d : Nat} {w : zW} {a b : Int32} {q1 q2 : Value} (hX : w.1 1 = some (.inr (4, [.ref 2, q1, q2]))) {p0 p1 p2 p3 : Value} {ve : Int32} (hF : w.1 2 = some (.inr (1, [p0, p1, p2, p3, .int 1, .int 0, .int ve]))) : zmet (d + 1) 95 [.ref 1, .int a, .int b] w (some (.int (-2))) w := by
  refine ⟨_, rfl, Nat.le_of_ble_eq_true rfl, ?_⟩
  show zev (d + 1) 95 0 [some (.ref 1), some (.int a), some (.int b), none] [] w _ _
  refine zt (pc' := 1) ((zd_95 _).trans rfl) zm_95 rfl rfl ?_
  refine zt_get (pc' := 4) ((zd_95 _).trans rfl) zm_95 rfl rfl hX (by decide) rfl ?_
  refine zt (pc' := 5) ((zd_95 _).trans rfl) zm_95 rfl rfl ?_
  refine zt_V (pc' := 8) ((zd_95 _).trans rfl) zm_95 rfl zq_6_63 rfl (Nat.le_of_ble_eq_true rfl) hF zqv_6_63_1 (by decide) rfl (c_hasBar0 hF zany) ?_
  refine zt_ifT (tgt := 21) (pc' := 11) ((zd_95 _).trans rfl) zm_95 rfl rfl (zeq rfl) ?_
  refine zt (pc' := 23) ((zd_95 _).trans rfl) zm_95 rfl rfl ?_
  exact zte ((zd_95 _).trans rfl) zm_95 rfl
theorem t_sign {d : Nat} {w : zW} {a b : Int32} {ms : List Value} {pl : Value} (hM : w.1 9 = some (.inr (5, .int 1 :: pl :: .int 0 :: ms))) : zmet (d + 1) 159 [.ref 9, .int a, .int b] w (some (.int (-2))) w := by
  refine ⟨_, rfl, Nat.le_of_ble_eq_true rfl, ?_⟩
  show zev (d + 1) 159 0 [some (.ref 9), some (.int a), some (.int b), none] [] w _ _
  refine zt (pc' := 1) ((zd_159 _).trans rfl) zm_159 rfl rfl ?_
  refine zt (pc' := 2) ((zd_159 _).trans rfl) zm_159 rfl rfl ?_
  refine zt (pc' := 3) ((zd_159 _).trans rfl) zm_159 rfl rfl ?_
  refine zt_get (pc' := 6) ((zd_159 _).trans rfl) zm_159 rfl rfl hM (by decide) rfl ?_
  refine zt (pc' := 7) ((zd_159 _).trans rfl) zm_159 rfl rfl ?_
  refine zt (pc' := 8) ((zd_159 _).trans rfl) zm_159 rfl rfl ?_
  refine zt_S (pc' := 11) ((zd_159 _).trans rfl) zm_159 rfl zq_7_70 (Nat.le_of_ble_eq_true rfl) (Nat.le_of_ble_eq_true rfl) rfl (c_isIn0 zany1) ?_
  refine zt_ifT (tgt := 23) (pc' := 14) ((zd_159 _).trans rfl) zm_159 rfl rfl (zeq rfl) ?_
  refine zt (pc' := 25) ((zd_159 _).trans rfl) zm_159 rfl rfl ?_
  exact zte ((zd_159 _).trans rfl) zm_159 rfl
theorem s_end {d : Nat} {w : zW} {a b : Int32} {q1 q2 : Value} (hX : w.1 1 = some (.inr (4, [.ref 2, q1, q2]))) {p0 p1 p2 p3 : Value} {ve : Int32} (hF : w.1 2 = some (.inr (1, [p0, p1, p2, p3, .int 1, .int 0, .int ve]))) : zmet (d + 1) 80 [.ref 1, .int a, .int b] w (some (.int (-2))) w := by
  refine ⟨_, rfl, Nat.le_of_ble_eq_true rfl, ?_⟩
  show zev (d + 1) 80 0 [some (.ref 1), some (.int a), some (.int b)] [] w _ _
  refine zt (pc' := 1) ((zd_80 _).trans rfl) zm_80 rfl rfl ?_
  refine zt_get (pc' := 4) ((zd_80 _).trans rfl) zm_80 rfl rfl hX (by decide) rfl ?_
  refine zt (pc' := 5) ((zd_80 _).trans rfl) zm_80 rfl rfl ?_
  refine zt_V (pc' := 8) ((zd_80 _).trans rfl) zm_80 rfl zq_6_63 rfl (Nat.le_of_ble_eq_true rfl) hF zqv_6_63_1 (by decide) rfl (c_hasBar0 hF zany) ?_
  refine zt_ifT (tgt := 20) (pc' := 11) ((zd_80 _).trans rfl) zm_80 rfl rfl (zeq rfl) ?_
  refine zt (pc' := 22) ((zd_80 _).trans rfl) zm_80 rfl rfl ?_
  exact zte ((zd_80 _).trans rfl) zm_80 rfl
theorem t_end {d : Nat} {w : zW} {a b : Int32} {ms : List Value} {pl : Value} (hM : w.1 9 = some (.inr (5, .int 1 :: pl :: .int 0 :: ms))) : zmet (d + 1) 117 [.ref 9, .int a, .int b] w (some (.int (-2))) w := by
  refine ⟨_, rfl, Nat.le_of_ble_eq_true rfl, ?_⟩
  show zev (d + 1) 117 0 [some (.ref 9), some (.int a), some (.int b)] [] w _ _
  refine zt (pc' := 1) ((zd_117 _).trans rfl) zm_117 rfl rfl ?_
  refine zt (pc' := 2) ((zd_117 _).trans rfl) zm_117 rfl rfl ?_
  refine zt (pc' := 3) ((zd_117 _).trans rfl) zm_117 rfl rfl ?_
  refine zt_get (pc' := 6) ((zd_117 _).trans rfl) zm_117 rfl rfl hM (by decide) rfl ?_
  refine zt (pc' := 7) ((zd_117 _).trans rfl) zm_117 rfl rfl ?_
  refine zt (pc' := 8) ((zd_117 _).trans rfl) zm_117 rfl rfl ?_
  refine zt_S (pc' := 11) ((zd_117 _).trans rfl) zm_117 rfl zq_7_70 (Nat.le_of_ble_eq_true rfl) (Nat.le_of_ble_eq_true rfl) rfl (c_isIn0 zany1) ?_
  refine zt_ifT (tgt := 23) (pc' := 14) ((zd_117 _).trans rfl) zm_117 rfl rfl (zeq rfl) ?_
  refine zt (pc' := 25) ((zd_117 _).trans rfl) zm_117 rfl rfl ?_
  exact zte ((zd_117 _).trans rfl) zm_117 rfl
theorem s_begin {d : Nat} {w : zW} {v : Int32} (h : v < 1 ∨ 7 < v) : zmet (d) 74 [.ref 1, .int v] w (some (.int (-2))) w := by
  refine ⟨_, rfl, Nat.le_of_ble_eq_true rfl, ?_⟩
  show zev (d) 74 0 [some (.ref 1), some (.int v), none] [] w _ _
  by_cases h1 : v < 1
  · refine zt (pc' := 1) ((zd_74 _).trans rfl) zm_74 rfl rfl ?_
    refine zt (pc' := 2) ((zd_74 _).trans rfl) zm_74 rfl rfl ?_
    refine zt_icT (tgt := 11) (pc' := 5) ((zd_74 _).trans rfl) zm_74 rfl rfl (zlt h1) ?_
    refine zt (pc' := 13) ((zd_74 _).trans rfl) zm_74 rfl rfl ?_
    exact zte ((zd_74 _).trans rfl) zm_74 rfl
  · have h2 : ¬ v ≤ 7 := Int32.not_le.mpr (h.resolve_left h1)
    refine zt (pc' := 1) ((zd_74 _).trans rfl) zm_74 rfl rfl ?_
    refine zt (pc' := 2) ((zd_74 _).trans rfl) zm_74 rfl rfl ?_
    refine zt_icF (tgt := 11) (pc' := 5) ((zd_74 _).trans rfl) zm_74 rfl rfl (znlt h1) ?_
    refine zt (pc' := 6) ((zd_74 _).trans rfl) zm_74 rfl rfl ?_
    refine zt (pc' := 8) ((zd_74 _).trans rfl) zm_74 rfl rfl ?_
    refine zt_icF (tgt := 14) (pc' := 11) ((zd_74 _).trans rfl) zm_74 rfl rfl (znle h2) ?_
    refine zt (pc' := 13) ((zd_74 _).trans rfl) zm_74 rfl rfl ?_
    exact zte ((zd_74 _).trans rfl) zm_74 rfl
theorem t_begin {d : Nat} {w : zW} {v : Int32} (h : v < 1 ∨ 7 < v) : zmet (d + 1) 106 [.ref 9, .int v] w (some (.int (-2))) w := by
  refine ⟨_, rfl, Nat.le_of_ble_eq_true rfl, ?_⟩
  show zev (d + 1) 106 0 [some (.ref 9), some (.int v), none, none] [] w _ _
  refine zt (pc' := 1) ((zd_106 _).trans rfl) zm_106 rfl rfl ?_
  refine zt (pc' := 2) ((zd_106 _).trans rfl) zm_106 rfl rfl ?_
  refine zt (pc' := 4) ((zd_106 _).trans rfl) zm_106 rfl rfl ?_
  refine zt_S (pc' := 7) ((zd_106 _).trans rfl) zm_106 rfl zq_7_70 (Nat.le_of_ble_eq_true rfl) (Nat.le_of_ble_eq_true rfl) rfl (c_isIn0 h) ?_
  refine zt_ifF (tgt := 13) (pc' := 10) ((zd_106 _).trans rfl) zm_106 rfl rfl (znne rfl) ?_
  refine zt (pc' := 12) ((zd_106 _).trans rfl) zm_106 rfl rfl ?_
  exact zte ((zd_106 _).trans rfl) zm_106 rfl
theorem s_bar {d : Nat} {w : zW} {a b : Int32} {q1 q2 : Value} (hX : w.1 1 = some (.inr (4, [.ref 2, q1, q2]))) {p0 p1 p2 p3 : Value} {ve : Int32} (hF : w.1 2 = some (.inr (1, [p0, p1, p2, p3, .int 1, .int 0, .int ve]))) : zmet (d + 2) 73 [.ref 1, .int a, .int b] w (some (.int (-2))) w := by
  refine ⟨_, rfl, Nat.le_of_ble_eq_true rfl, ?_⟩
  show zev (d + 2) 73 0 [some (.ref 1), some (.int a), some (.int b)] [] w _ _
  refine zt (pc' := 1) ((zd_73 _).trans rfl) zm_73 rfl rfl ?_
  refine zt (pc' := 2) ((zd_73 _).trans rfl) zm_73 rfl rfl ?_
  refine zt (pc' := 3) ((zd_73 _).trans rfl) zm_73 rfl rfl ?_
  refine zt_V (pc' := 6) ((zd_73 _).trans rfl) zm_73 rfl zq_6_45 rfl (Nat.le_of_ble_eq_true rfl) hX zqv_6_45_4 (by decide) rfl (c_isPair0 hX hF) ?_
  refine zt_ifF (tgt := 12) (pc' := 9) ((zd_73 _).trans rfl) zm_73 rfl rfl (znne rfl) ?_
  refine zt (pc' := 11) ((zd_73 _).trans rfl) zm_73 rfl rfl ?_
  exact zte ((zd_73 _).trans rfl) zm_73 rfl
theorem z02 {v : Int32} (h1 : ¬ v < 0) (h2 : ¬ (1 : Int32) - 1 < v) : v = 0 := by
  rw [Int32.lt_iff_toInt_lt] at h1 h2
  have e0 : (0 : Int32).toInt = 0 := rfl
  have e1 : ((1 : Int32) - 1).toInt = 0 := rfl
  exact Int32.toInt_inj.mp (by omega)
theorem t_bar {d : Nat} {w : zW} {a b : Int32} {ms : List Value} {pl : Value} (hM : w.1 9 = some (.inr (5, .int 1 :: pl :: .int 0 :: ms))) : zmet (d + 2) 104 [.ref 9, .int a, .int b] w (some (.int (-2))) w := by
  refine ⟨_, rfl, Nat.le_of_ble_eq_true rfl, ?_⟩
  show zev (d + 2) 104 0 [some (.ref 9), some (.int a), some (.int b), none, none, none, none] [] w _ _
  by_cases ha : a < 0 ∨ (1 : Int32) - 1 < a
  · refine zt (pc' := 1) ((zd_104 _).trans rfl) zm_104 rfl rfl ?_
    refine zt (pc' := 2) ((zd_104 _).trans rfl) zm_104 rfl rfl ?_
    refine zt_V (pc' := 5) ((zd_104 _).trans rfl) zm_104 rfl zq_7_77 rfl (Nat.le_of_ble_eq_true rfl) hM zqv_7_77_5 (by decide) rfl (c_isJoint0 hM ha) ?_
    refine zt_ifT (tgt := 21) (pc' := 8) ((zd_104 _).trans rfl) zm_104 rfl rfl (zeq rfl) ?_
    refine zt (pc' := 23) ((zd_104 _).trans rfl) zm_104 rfl rfl ?_
    exact zte ((zd_104 _).trans rfl) zm_104 rfl
  · have ha1 : ¬ a < 0 := fun h => ha (Or.inl h)
    have ha2 : ¬ (1 : Int32) - 1 < a := fun h => ha (Or.inr h)
    by_cases hb : b < 0 ∨ (1 : Int32) - 1 < b
    · refine zt (pc' := 1) ((zd_104 _).trans rfl) zm_104 rfl rfl ?_
      refine zt (pc' := 2) ((zd_104 _).trans rfl) zm_104 rfl rfl ?_
      refine zt_V (pc' := 5) ((zd_104 _).trans rfl) zm_104 rfl zq_7_77 rfl (Nat.le_of_ble_eq_true rfl) hM zqv_7_77_5 (by decide) rfl (c_isJoint1 hM ha1 ha2) ?_
      refine zt_ifF (tgt := 21) (pc' := 8) ((zd_104 _).trans rfl) zm_104 rfl rfl (zneq (by decide)) ?_
      refine zt (pc' := 9) ((zd_104 _).trans rfl) zm_104 rfl rfl ?_
      refine zt (pc' := 10) ((zd_104 _).trans rfl) zm_104 rfl rfl ?_
      refine zt_V (pc' := 13) ((zd_104 _).trans rfl) zm_104 rfl zq_7_77 rfl (Nat.le_of_ble_eq_true rfl) hM zqv_7_77_5 (by decide) rfl (c_isJoint0 hM hb) ?_
      refine zt_ifT (tgt := 21) (pc' := 16) ((zd_104 _).trans rfl) zm_104 rfl rfl (zeq rfl) ?_
      refine zt (pc' := 23) ((zd_104 _).trans rfl) zm_104 rfl rfl ?_
      exact zte ((zd_104 _).trans rfl) zm_104 rfl
    · have hb1 : ¬ b < 0 := fun h => hb (Or.inl h)
      have hb2 : ¬ (1 : Int32) - 1 < b := fun h => hb (Or.inr h)
      have hab : a = b := (z02 ha1 ha2).trans (z02 hb1 hb2).symm
      refine zt (pc' := 1) ((zd_104 _).trans rfl) zm_104 rfl rfl ?_
      refine zt (pc' := 2) ((zd_104 _).trans rfl) zm_104 rfl rfl ?_
      refine zt_V (pc' := 5) ((zd_104 _).trans rfl) zm_104 rfl zq_7_77 rfl (Nat.le_of_ble_eq_true rfl) hM zqv_7_77_5 (by decide) rfl (c_isJoint1 hM ha1 ha2) ?_
      refine zt_ifF (tgt := 21) (pc' := 8) ((zd_104 _).trans rfl) zm_104 rfl rfl (zneq (by decide)) ?_
      refine zt (pc' := 9) ((zd_104 _).trans rfl) zm_104 rfl rfl ?_
      refine zt (pc' := 10) ((zd_104 _).trans rfl) zm_104 rfl rfl ?_
      refine zt_V (pc' := 13) ((zd_104 _).trans rfl) zm_104 rfl zq_7_77 rfl (Nat.le_of_ble_eq_true rfl) hM zqv_7_77_5 (by decide) rfl (c_isJoint1 hM hb1 hb2) ?_
      refine zt_ifF (tgt := 21) (pc' := 16) ((zd_104 _).trans rfl) zm_104 rfl rfl (zneq (by decide)) ?_
      refine zt (pc' := 17) ((zd_104 _).trans rfl) zm_104 rfl rfl ?_
      refine zt (pc' := 18) ((zd_104 _).trans rfl) zm_104 rfl rfl ?_
      refine zt_icF (tgt := 24) (pc' := 21) ((zd_104 _).trans rfl) zm_104 rfl rfl (znne hab) ?_
      refine zt (pc' := 23) ((zd_104 _).trans rfl) zm_104 rfl rfl ?_
      exact zte ((zd_104 _).trans rfl) zm_104 rfl
theorem c_isSort1_0 {d : Nat} {w : zW} {ms : List Value} {pl : Value} (hM : w.1 9 = some (.inr (5, .int 1 :: pl :: .int 0 :: ms))) : zmet (d + 1) 138 [.ref 9, .int 0] w (some (.int 1)) w := by
  refine ⟨_, rfl, Nat.le_of_ble_eq_true rfl, ?_⟩
  show zev (d + 1) 138 0 [some (.ref 9), some (.int 0)] [] w _ _
  refine zt (pc' := 1) ((zd_138 _).trans rfl) zm_138 rfl rfl ?_
  refine zt (pc' := 2) ((zd_138 _).trans rfl) zm_138 rfl rfl ?_
  refine zt (pc' := 3) ((zd_138 _).trans rfl) zm_138 rfl rfl ?_
  refine zt_S (pc' := 6) ((zd_138 _).trans rfl) zm_138 rfl zq_7_70 (Nat.le_of_ble_eq_true rfl) (Nat.le_of_ble_eq_true rfl) rfl (c_isIn1 (by decide) (by decide)) ?_
  refine zt_ifF (tgt := 26) (pc' := 9) ((zd_138 _).trans rfl) zm_138 rfl rfl (zneq (by decide)) ?_
  refine zt (pc' := 10) ((zd_138 _).trans rfl) zm_138 rfl rfl ?_
  refine zt (pc' := 11) ((zd_138 _).trans rfl) zm_138 rfl rfl ?_
  refine zt_icT (tgt := 22) (pc' := 14) ((zd_138 _).trans rfl) zm_138 rfl rfl (zne (by decide)) ?_
  refine zt (pc' := 23) ((zd_138 _).trans rfl) zm_138 rfl rfl ?_
  refine zt (pc' := 27) ((zd_138 _).trans rfl) zm_138 rfl rfl ?_
  exact zte ((zd_138 _).trans rfl) zm_138 rfl
theorem t_implied0 {d : Nat} {w : zW} {a b c : Int32} {ms : List Value} {pl : Value} (hM : w.1 9 = some (.inr (5, .int 1 :: pl :: .int 0 :: ms))) : zmet (d + 2) 124 [.ref 9, .int 0, .int a, .int b, .int c] w (some (.int (-2))) w := by
  refine ⟨_, rfl, Nat.le_of_ble_eq_true rfl, ?_⟩
  show zev (d + 2) 124 0 [some (.ref 9), some (.int 0), some (.int a), some (.int b), some (.int c)] [] w _ _
  by_cases ha : a < 0 ∨ (1 : Int32) - 1 < a
  · refine zt (pc' := 1) ((zd_124 _).trans rfl) zm_124 rfl rfl ?_
    refine zt (pc' := 2) ((zd_124 _).trans rfl) zm_124 rfl rfl ?_
    refine zt_V (pc' := 5) ((zd_124 _).trans rfl) zm_124 rfl zq_7_158 rfl (Nat.le_of_ble_eq_true rfl) hM zqv_7_158_5 (by decide) rfl (c_isSort1_0 hM) ?_
    refine zt_ifF (tgt := 38) (pc' := 8) ((zd_124 _).trans rfl) zm_124 rfl rfl (zneq (by decide)) ?_
    refine zt (pc' := 9) ((zd_124 _).trans rfl) zm_124 rfl rfl ?_
    refine zt (pc' := 10) ((zd_124 _).trans rfl) zm_124 rfl rfl ?_
    refine zt_V (pc' := 13) ((zd_124 _).trans rfl) zm_124 rfl zq_7_77 rfl (Nat.le_of_ble_eq_true rfl) hM zqv_7_77_5 (by decide) rfl (c_isJoint0 hM ha) ?_
    refine zt_ifT (tgt := 38) (pc' := 16) ((zd_124 _).trans rfl) zm_124 rfl rfl (zeq rfl) ?_
    refine zt (pc' := 40) ((zd_124 _).trans rfl) zm_124 rfl rfl ?_
    exact zte ((zd_124 _).trans rfl) zm_124 rfl
  · have ha1 : ¬ a < 0 := fun h => ha (Or.inl h)
    have ha2 : ¬ (1 : Int32) - 1 < a := fun h => ha (Or.inr h)
    by_cases hb : b < 0 ∨ (1 : Int32) - 1 < b
    · refine zt (pc' := 1) ((zd_124 _).trans rfl) zm_124 rfl rfl ?_
      refine zt (pc' := 2) ((zd_124 _).trans rfl) zm_124 rfl rfl ?_
      refine zt_V (pc' := 5) ((zd_124 _).trans rfl) zm_124 rfl zq_7_158 rfl (Nat.le_of_ble_eq_true rfl) hM zqv_7_158_5 (by decide) rfl (c_isSort1_0 hM) ?_
      refine zt_ifF (tgt := 38) (pc' := 8) ((zd_124 _).trans rfl) zm_124 rfl rfl (zneq (by decide)) ?_
      refine zt (pc' := 9) ((zd_124 _).trans rfl) zm_124 rfl rfl ?_
      refine zt (pc' := 10) ((zd_124 _).trans rfl) zm_124 rfl rfl ?_
      refine zt_V (pc' := 13) ((zd_124 _).trans rfl) zm_124 rfl zq_7_77 rfl (Nat.le_of_ble_eq_true rfl) hM zqv_7_77_5 (by decide) rfl (c_isJoint1 hM ha1 ha2) ?_
      refine zt_ifF (tgt := 38) (pc' := 16) ((zd_124 _).trans rfl) zm_124 rfl rfl (zneq (by decide)) ?_
      refine zt (pc' := 17) ((zd_124 _).trans rfl) zm_124 rfl rfl ?_
      refine zt (pc' := 18) ((zd_124 _).trans rfl) zm_124 rfl rfl ?_
      refine zt_V (pc' := 21) ((zd_124 _).trans rfl) zm_124 rfl zq_7_77 rfl (Nat.le_of_ble_eq_true rfl) hM zqv_7_77_5 (by decide) rfl (c_isJoint0 hM hb) ?_
      refine zt_ifT (tgt := 38) (pc' := 24) ((zd_124 _).trans rfl) zm_124 rfl rfl (zeq rfl) ?_
      refine zt (pc' := 40) ((zd_124 _).trans rfl) zm_124 rfl rfl ?_
      exact zte ((zd_124 _).trans rfl) zm_124 rfl
    · have hb1 : ¬ b < 0 := fun h => hb (Or.inl h)
      have hb2 : ¬ (1 : Int32) - 1 < b := fun h => hb (Or.inr h)
      have hab : a = b := (z02 ha1 ha2).trans (z02 hb1 hb2).symm
      refine zt (pc' := 1) ((zd_124 _).trans rfl) zm_124 rfl rfl ?_
      refine zt (pc' := 2) ((zd_124 _).trans rfl) zm_124 rfl rfl ?_
      refine zt_V (pc' := 5) ((zd_124 _).trans rfl) zm_124 rfl zq_7_158 rfl (Nat.le_of_ble_eq_true rfl) hM zqv_7_158_5 (by decide) rfl (c_isSort1_0 hM) ?_
      refine zt_ifF (tgt := 38) (pc' := 8) ((zd_124 _).trans rfl) zm_124 rfl rfl (zneq (by decide)) ?_
      refine zt (pc' := 9) ((zd_124 _).trans rfl) zm_124 rfl rfl ?_
      refine zt (pc' := 10) ((zd_124 _).trans rfl) zm_124 rfl rfl ?_
      refine zt_V (pc' := 13) ((zd_124 _).trans rfl) zm_124 rfl zq_7_77 rfl (Nat.le_of_ble_eq_true rfl) hM zqv_7_77_5 (by decide) rfl (c_isJoint1 hM ha1 ha2) ?_
      refine zt_ifF (tgt := 38) (pc' := 16) ((zd_124 _).trans rfl) zm_124 rfl rfl (zneq (by decide)) ?_
      refine zt (pc' := 17) ((zd_124 _).trans rfl) zm_124 rfl rfl ?_
      refine zt (pc' := 18) ((zd_124 _).trans rfl) zm_124 rfl rfl ?_
      refine zt_V (pc' := 21) ((zd_124 _).trans rfl) zm_124 rfl zq_7_77 rfl (Nat.le_of_ble_eq_true rfl) hM zqv_7_77_5 (by decide) rfl (c_isJoint1 hM hb1 hb2) ?_
      refine zt_ifF (tgt := 38) (pc' := 24) ((zd_124 _).trans rfl) zm_124 rfl rfl (zneq (by decide)) ?_
      refine zt (pc' := 25) ((zd_124 _).trans rfl) zm_124 rfl rfl ?_
      refine zt (pc' := 26) ((zd_124 _).trans rfl) zm_124 rfl rfl ?_
      refine zt_icT (tgt := 38) (pc' := 29) ((zd_124 _).trans rfl) zm_124 rfl rfl (zeq hab) ?_
      refine zt (pc' := 40) ((zd_124 _).trans rfl) zm_124 rfl rfl ?_
      exact zte ((zd_124 _).trans rfl) zm_124 rfl
theorem t_rank0 {d : Nat} {w : zW} {b : Int32} {ms : List Value} {pl : Value} (hM : w.1 9 = some (.inr (5, .int 1 :: pl :: .int 0 :: ms))) (hb : b < 0 ∨ 1 <<< ((0 : Int32) &&& 31) - 1 < b) : zmet (d + 2) 154 [.ref 9, .int 0, .int b] w (some (.int (-2))) w := by
  refine ⟨_, rfl, Nat.le_of_ble_eq_true rfl, ?_⟩
  show zev (d + 2) 154 0 [some (.ref 9), some (.int 0), some (.int b)] [] w _ _
  refine zt (pc' := 1) ((zd_154 _).trans rfl) zm_154 rfl rfl ?_
  refine zt (pc' := 2) ((zd_154 _).trans rfl) zm_154 rfl rfl ?_
  refine zt_V (pc' := 5) ((zd_154 _).trans rfl) zm_154 rfl zq_7_158 rfl (Nat.le_of_ble_eq_true rfl) hM zqv_7_158_5 (by decide) rfl (c_isSort1_0 hM) ?_
  refine zt_ifF (tgt := 25) (pc' := 8) ((zd_154 _).trans rfl) zm_154 rfl rfl (zneq (by decide)) ?_
  refine zt (pc' := 9) ((zd_154 _).trans rfl) zm_154 rfl rfl ?_
  refine zt (pc' := 10) ((zd_154 _).trans rfl) zm_154 rfl rfl ?_
  refine zt_V (pc' := 13) ((zd_154 _).trans rfl) zm_154 rfl zq_7_161 rfl (Nat.le_of_ble_eq_true rfl) hM zqv_7_161_5 (by decide) rfl (c_isSet0 hM hb) ?_
  refine zt_ifT (tgt := 25) (pc' := 16) ((zd_154 _).trans rfl) zm_154 rfl rfl (zeq rfl) ?_
  refine zt (pc' := 27) ((zd_154 _).trans rfl) zm_154 rfl rfl ?_
  exact zte ((zd_154 _).trans rfl) zm_154 rfl
theorem t_closure0 {d : Nat} {w : zW} {b : Int32} {ms : List Value} {pl : Value} (hM : w.1 9 = some (.inr (5, .int 1 :: pl :: .int 0 :: ms))) (hb : b < 0 ∨ 1 <<< ((0 : Int32) &&& 31) - 1 < b) : zmet (d + 2) 111 [.ref 9, .int 0, .int b] w (some (.int (-2))) w := by
  refine ⟨_, rfl, Nat.le_of_ble_eq_true rfl, ?_⟩
  show zev (d + 2) 111 0 [some (.ref 9), some (.int 0), some (.int b)] [] w _ _
  refine zt (pc' := 1) ((zd_111 _).trans rfl) zm_111 rfl rfl ?_
  refine zt (pc' := 2) ((zd_111 _).trans rfl) zm_111 rfl rfl ?_
  refine zt_V (pc' := 5) ((zd_111 _).trans rfl) zm_111 rfl zq_7_158 rfl (Nat.le_of_ble_eq_true rfl) hM zqv_7_158_5 (by decide) rfl (c_isSort1_0 hM) ?_
  refine zt_ifF (tgt := 25) (pc' := 8) ((zd_111 _).trans rfl) zm_111 rfl rfl (zneq (by decide)) ?_
  refine zt (pc' := 9) ((zd_111 _).trans rfl) zm_111 rfl rfl ?_
  refine zt (pc' := 10) ((zd_111 _).trans rfl) zm_111 rfl rfl ?_
  refine zt_V (pc' := 13) ((zd_111 _).trans rfl) zm_111 rfl zq_7_161 rfl (Nat.le_of_ble_eq_true rfl) hM zqv_7_161_5 (by decide) rfl (c_isSet0 hM hb) ?_
  refine zt_ifT (tgt := 25) (pc' := 16) ((zd_111 _).trans rfl) zm_111 rfl rfl (zeq rfl) ?_
  refine zt (pc' := 27) ((zd_111 _).trans rfl) zm_111 rfl rfl ?_
  exact zte ((zd_111 _).trans rfl) zm_111 rfl
theorem t_many0 {d : Nat} {w : zW} {b : Int32} {ms : List Value} {pl : Value} (hM : w.1 9 = some (.inr (5, .int 1 :: pl :: .int 0 :: ms))) (hb : b < 0 ∨ 6 < b) : zmet (d + 2) 144 [.ref 9, .int 0, .int b] w (some (.int (-2))) w := by
  refine ⟨_, rfl, Nat.le_of_ble_eq_true rfl, ?_⟩
  show zev (d + 2) 144 0 [some (.ref 9), some (.int 0), some (.int b), none, none] [] w _ _
  refine zt (pc' := 1) ((zd_144 _).trans rfl) zm_144 rfl rfl ?_
  refine zt (pc' := 2) ((zd_144 _).trans rfl) zm_144 rfl rfl ?_
  refine zt_V (pc' := 5) ((zd_144 _).trans rfl) zm_144 rfl zq_7_158 rfl (Nat.le_of_ble_eq_true rfl) hM zqv_7_158_5 (by decide) rfl (c_isSort1_0 hM) ?_
  refine zt_ifF (tgt := 18) (pc' := 8) ((zd_144 _).trans rfl) zm_144 rfl rfl (zneq (by decide)) ?_
  refine zt (pc' := 9) ((zd_144 _).trans rfl) zm_144 rfl rfl ?_
  refine zt (pc' := 10) ((zd_144 _).trans rfl) zm_144 rfl rfl ?_
  refine zt (pc' := 12) ((zd_144 _).trans rfl) zm_144 rfl rfl ?_
  refine zt_S (pc' := 15) ((zd_144 _).trans rfl) zm_144 rfl zq_7_70 (Nat.le_of_ble_eq_true rfl) (Nat.le_of_ble_eq_true rfl) rfl (c_isIn0 hb) ?_
  refine zt_ifF (tgt := 21) (pc' := 18) ((zd_144 _).trans rfl) zm_144 rfl rfl (znne rfl) ?_
  refine zt (pc' := 20) ((zd_144 _).trans rfl) zm_144 rfl rfl ?_
  exact zte ((zd_144 _).trans rfl) zm_144 rfl
theorem t_told0 {d : Nat} {w : zW} {b c : Int32} {ms : List Value} {pl : Value} (hM : w.1 9 = some (.inr (5, .int 1 :: pl :: .int 0 :: ms))) (hb : b < 0 ∨ 6 < b) : zmet (d + 2) 166 [.ref 9, .int 0, .int b, .int c] w (some (.int (-2))) w := by
  refine ⟨_, rfl, Nat.le_of_ble_eq_true rfl, ?_⟩
  show zev (d + 2) 166 0 [some (.ref 9), some (.int 0), some (.int b), some (.int c), none, none, none] [] w _ _
  refine zt (pc' := 1) ((zd_166 _).trans rfl) zm_166 rfl rfl ?_
  refine zt (pc' := 2) ((zd_166 _).trans rfl) zm_166 rfl rfl ?_
  refine zt_V (pc' := 5) ((zd_166 _).trans rfl) zm_166 rfl zq_7_158 rfl (Nat.le_of_ble_eq_true rfl) hM zqv_7_158_5 (by decide) rfl (c_isSort1_0 hM) ?_
  refine zt_ifF (tgt := 18) (pc' := 8) ((zd_166 _).trans rfl) zm_166 rfl rfl (zneq (by decide)) ?_
  refine zt (pc' := 9) ((zd_166 _).trans rfl) zm_166 rfl rfl ?_
  refine zt (pc' := 10) ((zd_166 _).trans rfl) zm_166 rfl rfl ?_
  refine zt (pc' := 12) ((zd_166 _).trans rfl) zm_166 rfl rfl ?_
  refine zt_S (pc' := 15) ((zd_166 _).trans rfl) zm_166 rfl zq_7_70 (Nat.le_of_ble_eq_true rfl) (Nat.le_of_ble_eq_true rfl) rfl (c_isIn0 hb) ?_
  refine zt_ifF (tgt := 21) (pc' := 18) ((zd_166 _).trans rfl) zm_166 rfl rfl (znne rfl) ?_
  refine zt (pc' := 20) ((zd_166 _).trans rfl) zm_166 rfl rfl ?_
  exact zte ((zd_166 _).trans rfl) zm_166 rfl
theorem c_isSort1_1 {d : Nat} {w : zW} {ms : List Value} {pl : Value} (hM : w.1 9 = some (.inr (5, .int 1 :: pl :: .int 0 :: ms))) : zmet (d + 1) 138 [.ref 9, .int 1] w (some (.int 1)) w := by
  refine ⟨_, rfl, Nat.le_of_ble_eq_true rfl, ?_⟩
  show zev (d + 1) 138 0 [some (.ref 9), some (.int 1)] [] w _ _
  refine zt (pc' := 1) ((zd_138 _).trans rfl) zm_138 rfl rfl ?_
  refine zt (pc' := 2) ((zd_138 _).trans rfl) zm_138 rfl rfl ?_
  refine zt (pc' := 3) ((zd_138 _).trans rfl) zm_138 rfl rfl ?_
  refine zt_S (pc' := 6) ((zd_138 _).trans rfl) zm_138 rfl zq_7_70 (Nat.le_of_ble_eq_true rfl) (Nat.le_of_ble_eq_true rfl) rfl (c_isIn1 (by decide) (by decide)) ?_
  refine zt_ifF (tgt := 26) (pc' := 9) ((zd_138 _).trans rfl) zm_138 rfl rfl (zneq (by decide)) ?_
  refine zt (pc' := 10) ((zd_138 _).trans rfl) zm_138 rfl rfl ?_
  refine zt (pc' := 11) ((zd_138 _).trans rfl) zm_138 rfl rfl ?_
  refine zt_icF (tgt := 22) (pc' := 14) ((zd_138 _).trans rfl) zm_138 rfl rfl (znne rfl) ?_
  refine zt (pc' := 15) ((zd_138 _).trans rfl) zm_138 rfl rfl ?_
  refine zt_get (pc' := 18) ((zd_138 _).trans rfl) zm_138 rfl rfl hM (by decide) rfl ?_
  refine zt (pc' := 19) ((zd_138 _).trans rfl) zm_138 rfl rfl ?_
  refine zt_icF (tgt := 26) (pc' := 22) ((zd_138 _).trans rfl) zm_138 rfl rfl (zngt (by decide)) ?_
  refine zt (pc' := 23) ((zd_138 _).trans rfl) zm_138 rfl rfl ?_
  refine zt (pc' := 27) ((zd_138 _).trans rfl) zm_138 rfl rfl ?_
  exact zte ((zd_138 _).trans rfl) zm_138 rfl
theorem t_implied1 {d : Nat} {w : zW} {a b c : Int32} {ms : List Value} {pl : Value} (hM : w.1 9 = some (.inr (5, .int 1 :: pl :: .int 0 :: ms))) : zmet (d + 2) 124 [.ref 9, .int 1, .int a, .int b, .int c] w (some (.int (-2))) w := by
  refine ⟨_, rfl, Nat.le_of_ble_eq_true rfl, ?_⟩
  show zev (d + 2) 124 0 [some (.ref 9), some (.int 1), some (.int a), some (.int b), some (.int c)] [] w _ _
  by_cases ha : a < 0 ∨ (1 : Int32) - 1 < a
  · refine zt (pc' := 1) ((zd_124 _).trans rfl) zm_124 rfl rfl ?_
    refine zt (pc' := 2) ((zd_124 _).trans rfl) zm_124 rfl rfl ?_
    refine zt_V (pc' := 5) ((zd_124 _).trans rfl) zm_124 rfl zq_7_158 rfl (Nat.le_of_ble_eq_true rfl) hM zqv_7_158_5 (by decide) rfl (c_isSort1_1 hM) ?_
    refine zt_ifF (tgt := 38) (pc' := 8) ((zd_124 _).trans rfl) zm_124 rfl rfl (zneq (by decide)) ?_
    refine zt (pc' := 9) ((zd_124 _).trans rfl) zm_124 rfl rfl ?_
    refine zt (pc' := 10) ((zd_124 _).trans rfl) zm_124 rfl rfl ?_
    refine zt_V (pc' := 13) ((zd_124 _).trans rfl) zm_124 rfl zq_7_77 rfl (Nat.le_of_ble_eq_true rfl) hM zqv_7_77_5 (by decide) rfl (c_isJoint0 hM ha) ?_
    refine zt_ifT (tgt := 38) (pc' := 16) ((zd_124 _).trans rfl) zm_124 rfl rfl (zeq rfl) ?_
    refine zt (pc' := 40) ((zd_124 _).trans rfl) zm_124 rfl rfl ?_
    exact zte ((zd_124 _).trans rfl) zm_124 rfl
  · have ha1 : ¬ a < 0 := fun h => ha (Or.inl h)
    have ha2 : ¬ (1 : Int32) - 1 < a := fun h => ha (Or.inr h)
    by_cases hb : b < 0 ∨ (1 : Int32) - 1 < b
    · refine zt (pc' := 1) ((zd_124 _).trans rfl) zm_124 rfl rfl ?_
      refine zt (pc' := 2) ((zd_124 _).trans rfl) zm_124 rfl rfl ?_
      refine zt_V (pc' := 5) ((zd_124 _).trans rfl) zm_124 rfl zq_7_158 rfl (Nat.le_of_ble_eq_true rfl) hM zqv_7_158_5 (by decide) rfl (c_isSort1_1 hM) ?_
      refine zt_ifF (tgt := 38) (pc' := 8) ((zd_124 _).trans rfl) zm_124 rfl rfl (zneq (by decide)) ?_
      refine zt (pc' := 9) ((zd_124 _).trans rfl) zm_124 rfl rfl ?_
      refine zt (pc' := 10) ((zd_124 _).trans rfl) zm_124 rfl rfl ?_
      refine zt_V (pc' := 13) ((zd_124 _).trans rfl) zm_124 rfl zq_7_77 rfl (Nat.le_of_ble_eq_true rfl) hM zqv_7_77_5 (by decide) rfl (c_isJoint1 hM ha1 ha2) ?_
      refine zt_ifF (tgt := 38) (pc' := 16) ((zd_124 _).trans rfl) zm_124 rfl rfl (zneq (by decide)) ?_
      refine zt (pc' := 17) ((zd_124 _).trans rfl) zm_124 rfl rfl ?_
      refine zt (pc' := 18) ((zd_124 _).trans rfl) zm_124 rfl rfl ?_
      refine zt_V (pc' := 21) ((zd_124 _).trans rfl) zm_124 rfl zq_7_77 rfl (Nat.le_of_ble_eq_true rfl) hM zqv_7_77_5 (by decide) rfl (c_isJoint0 hM hb) ?_
      refine zt_ifT (tgt := 38) (pc' := 24) ((zd_124 _).trans rfl) zm_124 rfl rfl (zeq rfl) ?_
      refine zt (pc' := 40) ((zd_124 _).trans rfl) zm_124 rfl rfl ?_
      exact zte ((zd_124 _).trans rfl) zm_124 rfl
    · have hb1 : ¬ b < 0 := fun h => hb (Or.inl h)
      have hb2 : ¬ (1 : Int32) - 1 < b := fun h => hb (Or.inr h)
      have hab : a = b := (z02 ha1 ha2).trans (z02 hb1 hb2).symm
      refine zt (pc' := 1) ((zd_124 _).trans rfl) zm_124 rfl rfl ?_
      refine zt (pc' := 2) ((zd_124 _).trans rfl) zm_124 rfl rfl ?_
      refine zt_V (pc' := 5) ((zd_124 _).trans rfl) zm_124 rfl zq_7_158 rfl (Nat.le_of_ble_eq_true rfl) hM zqv_7_158_5 (by decide) rfl (c_isSort1_1 hM) ?_
      refine zt_ifF (tgt := 38) (pc' := 8) ((zd_124 _).trans rfl) zm_124 rfl rfl (zneq (by decide)) ?_
      refine zt (pc' := 9) ((zd_124 _).trans rfl) zm_124 rfl rfl ?_
      refine zt (pc' := 10) ((zd_124 _).trans rfl) zm_124 rfl rfl ?_
      refine zt_V (pc' := 13) ((zd_124 _).trans rfl) zm_124 rfl zq_7_77 rfl (Nat.le_of_ble_eq_true rfl) hM zqv_7_77_5 (by decide) rfl (c_isJoint1 hM ha1 ha2) ?_
      refine zt_ifF (tgt := 38) (pc' := 16) ((zd_124 _).trans rfl) zm_124 rfl rfl (zneq (by decide)) ?_
      refine zt (pc' := 17) ((zd_124 _).trans rfl) zm_124 rfl rfl ?_
      refine zt (pc' := 18) ((zd_124 _).trans rfl) zm_124 rfl rfl ?_
      refine zt_V (pc' := 21) ((zd_124 _).trans rfl) zm_124 rfl zq_7_77 rfl (Nat.le_of_ble_eq_true rfl) hM zqv_7_77_5 (by decide) rfl (c_isJoint1 hM hb1 hb2) ?_
      refine zt_ifF (tgt := 38) (pc' := 24) ((zd_124 _).trans rfl) zm_124 rfl rfl (zneq (by decide)) ?_
      refine zt (pc' := 25) ((zd_124 _).trans rfl) zm_124 rfl rfl ?_
      refine zt (pc' := 26) ((zd_124 _).trans rfl) zm_124 rfl rfl ?_
      refine zt_icT (tgt := 38) (pc' := 29) ((zd_124 _).trans rfl) zm_124 rfl rfl (zeq hab) ?_
      refine zt (pc' := 40) ((zd_124 _).trans rfl) zm_124 rfl rfl ?_
      exact zte ((zd_124 _).trans rfl) zm_124 rfl
theorem t_rank1 {d : Nat} {w : zW} {b : Int32} {ms : List Value} {pl : Value} (hM : w.1 9 = some (.inr (5, .int 1 :: pl :: .int 0 :: ms))) (hb : b < 0 ∨ 1 <<< ((0 : Int32) &&& 31) - 1 < b) : zmet (d + 2) 154 [.ref 9, .int 1, .int b] w (some (.int (-2))) w := by
  refine ⟨_, rfl, Nat.le_of_ble_eq_true rfl, ?_⟩
  show zev (d + 2) 154 0 [some (.ref 9), some (.int 1), some (.int b)] [] w _ _
  refine zt (pc' := 1) ((zd_154 _).trans rfl) zm_154 rfl rfl ?_
  refine zt (pc' := 2) ((zd_154 _).trans rfl) zm_154 rfl rfl ?_
  refine zt_V (pc' := 5) ((zd_154 _).trans rfl) zm_154 rfl zq_7_158 rfl (Nat.le_of_ble_eq_true rfl) hM zqv_7_158_5 (by decide) rfl (c_isSort1_1 hM) ?_
  refine zt_ifF (tgt := 25) (pc' := 8) ((zd_154 _).trans rfl) zm_154 rfl rfl (zneq (by decide)) ?_
  refine zt (pc' := 9) ((zd_154 _).trans rfl) zm_154 rfl rfl ?_
  refine zt (pc' := 10) ((zd_154 _).trans rfl) zm_154 rfl rfl ?_
  refine zt_V (pc' := 13) ((zd_154 _).trans rfl) zm_154 rfl zq_7_161 rfl (Nat.le_of_ble_eq_true rfl) hM zqv_7_161_5 (by decide) rfl (c_isSet0 hM hb) ?_
  refine zt_ifT (tgt := 25) (pc' := 16) ((zd_154 _).trans rfl) zm_154 rfl rfl (zeq rfl) ?_
  refine zt (pc' := 27) ((zd_154 _).trans rfl) zm_154 rfl rfl ?_
  exact zte ((zd_154 _).trans rfl) zm_154 rfl
theorem t_closure1 {d : Nat} {w : zW} {b : Int32} {ms : List Value} {pl : Value} (hM : w.1 9 = some (.inr (5, .int 1 :: pl :: .int 0 :: ms))) (hb : b < 0 ∨ 1 <<< ((0 : Int32) &&& 31) - 1 < b) : zmet (d + 2) 111 [.ref 9, .int 1, .int b] w (some (.int (-2))) w := by
  refine ⟨_, rfl, Nat.le_of_ble_eq_true rfl, ?_⟩
  show zev (d + 2) 111 0 [some (.ref 9), some (.int 1), some (.int b)] [] w _ _
  refine zt (pc' := 1) ((zd_111 _).trans rfl) zm_111 rfl rfl ?_
  refine zt (pc' := 2) ((zd_111 _).trans rfl) zm_111 rfl rfl ?_
  refine zt_V (pc' := 5) ((zd_111 _).trans rfl) zm_111 rfl zq_7_158 rfl (Nat.le_of_ble_eq_true rfl) hM zqv_7_158_5 (by decide) rfl (c_isSort1_1 hM) ?_
  refine zt_ifF (tgt := 25) (pc' := 8) ((zd_111 _).trans rfl) zm_111 rfl rfl (zneq (by decide)) ?_
  refine zt (pc' := 9) ((zd_111 _).trans rfl) zm_111 rfl rfl ?_
  refine zt (pc' := 10) ((zd_111 _).trans rfl) zm_111 rfl rfl ?_
  refine zt_V (pc' := 13) ((zd_111 _).trans rfl) zm_111 rfl zq_7_161 rfl (Nat.le_of_ble_eq_true rfl) hM zqv_7_161_5 (by decide) rfl (c_isSet0 hM hb) ?_
  refine zt_ifT (tgt := 25) (pc' := 16) ((zd_111 _).trans rfl) zm_111 rfl rfl (zeq rfl) ?_
  refine zt (pc' := 27) ((zd_111 _).trans rfl) zm_111 rfl rfl ?_
  exact zte ((zd_111 _).trans rfl) zm_111 rfl
theorem t_many1 {d : Nat} {w : zW} {b : Int32} {ms : List Value} {pl : Value} (hM : w.1 9 = some (.inr (5, .int 1 :: pl :: .int 0 :: ms))) (hb : b < 0 ∨ 6 < b) : zmet (d + 2) 144 [.ref 9, .int 1, .int b] w (some (.int (-2))) w := by
  refine ⟨_, rfl, Nat.le_of_ble_eq_true rfl, ?_⟩
  show zev (d + 2) 144 0 [some (.ref 9), some (.int 1), some (.int b), none, none] [] w _ _
  refine zt (pc' := 1) ((zd_144 _).trans rfl) zm_144 rfl rfl ?_
  refine zt (pc' := 2) ((zd_144 _).trans rfl) zm_144 rfl rfl ?_
  refine zt_V (pc' := 5) ((zd_144 _).trans rfl) zm_144 rfl zq_7_158 rfl (Nat.le_of_ble_eq_true rfl) hM zqv_7_158_5 (by decide) rfl (c_isSort1_1 hM) ?_
  refine zt_ifF (tgt := 18) (pc' := 8) ((zd_144 _).trans rfl) zm_144 rfl rfl (zneq (by decide)) ?_
  refine zt (pc' := 9) ((zd_144 _).trans rfl) zm_144 rfl rfl ?_
  refine zt (pc' := 10) ((zd_144 _).trans rfl) zm_144 rfl rfl ?_
  refine zt (pc' := 12) ((zd_144 _).trans rfl) zm_144 rfl rfl ?_
  refine zt_S (pc' := 15) ((zd_144 _).trans rfl) zm_144 rfl zq_7_70 (Nat.le_of_ble_eq_true rfl) (Nat.le_of_ble_eq_true rfl) rfl (c_isIn0 hb) ?_
  refine zt_ifF (tgt := 21) (pc' := 18) ((zd_144 _).trans rfl) zm_144 rfl rfl (znne rfl) ?_
  refine zt (pc' := 20) ((zd_144 _).trans rfl) zm_144 rfl rfl ?_
  exact zte ((zd_144 _).trans rfl) zm_144 rfl
theorem t_told1 {d : Nat} {w : zW} {b c : Int32} {ms : List Value} {pl : Value} (hM : w.1 9 = some (.inr (5, .int 1 :: pl :: .int 0 :: ms))) (hb : b < 0 ∨ 6 < b) : zmet (d + 2) 166 [.ref 9, .int 1, .int b, .int c] w (some (.int (-2))) w := by
  refine ⟨_, rfl, Nat.le_of_ble_eq_true rfl, ?_⟩
  show zev (d + 2) 166 0 [some (.ref 9), some (.int 1), some (.int b), some (.int c), none, none, none] [] w _ _
  refine zt (pc' := 1) ((zd_166 _).trans rfl) zm_166 rfl rfl ?_
  refine zt (pc' := 2) ((zd_166 _).trans rfl) zm_166 rfl rfl ?_
  refine zt_V (pc' := 5) ((zd_166 _).trans rfl) zm_166 rfl zq_7_158 rfl (Nat.le_of_ble_eq_true rfl) hM zqv_7_158_5 (by decide) rfl (c_isSort1_1 hM) ?_
  refine zt_ifF (tgt := 18) (pc' := 8) ((zd_166 _).trans rfl) zm_166 rfl rfl (zneq (by decide)) ?_
  refine zt (pc' := 9) ((zd_166 _).trans rfl) zm_166 rfl rfl ?_
  refine zt (pc' := 10) ((zd_166 _).trans rfl) zm_166 rfl rfl ?_
  refine zt (pc' := 12) ((zd_166 _).trans rfl) zm_166 rfl rfl ?_
  refine zt_S (pc' := 15) ((zd_166 _).trans rfl) zm_166 rfl zq_7_70 (Nat.le_of_ble_eq_true rfl) (Nat.le_of_ble_eq_true rfl) rfl (c_isIn0 hb) ?_
  refine zt_ifF (tgt := 21) (pc' := 18) ((zd_166 _).trans rfl) zm_166 rfl rfl (znne rfl) ?_
  refine zt (pc' := 20) ((zd_166 _).trans rfl) zm_166 rfl rfl ?_
  exact zte ((zd_166 _).trans rfl) zm_166 rfl
theorem c_isSort1_2 {d : Nat} {w : zW} {ms : List Value} {pl : Value} (hM : w.1 9 = some (.inr (5, .int 1 :: pl :: .int 0 :: ms))) : zmet (d + 1) 138 [.ref 9, .int 2] w (some (.int 1)) w := by
  refine ⟨_, rfl, Nat.le_of_ble_eq_true rfl, ?_⟩
  show zev (d + 1) 138 0 [some (.ref 9), some (.int 2)] [] w _ _
  refine zt (pc' := 1) ((zd_138 _).trans rfl) zm_138 rfl rfl ?_
  refine zt (pc' := 2) ((zd_138 _).trans rfl) zm_138 rfl rfl ?_
  refine zt (pc' := 3) ((zd_138 _).trans rfl) zm_138 rfl rfl ?_
  refine zt_S (pc' := 6) ((zd_138 _).trans rfl) zm_138 rfl zq_7_70 (Nat.le_of_ble_eq_true rfl) (Nat.le_of_ble_eq_true rfl) rfl (c_isIn1 (by decide) (by decide)) ?_
  refine zt_ifF (tgt := 26) (pc' := 9) ((zd_138 _).trans rfl) zm_138 rfl rfl (zneq (by decide)) ?_
  refine zt (pc' := 10) ((zd_138 _).trans rfl) zm_138 rfl rfl ?_
  refine zt (pc' := 11) ((zd_138 _).trans rfl) zm_138 rfl rfl ?_
  refine zt_icT (tgt := 22) (pc' := 14) ((zd_138 _).trans rfl) zm_138 rfl rfl (zne (by decide)) ?_
  refine zt (pc' := 23) ((zd_138 _).trans rfl) zm_138 rfl rfl ?_
  refine zt (pc' := 27) ((zd_138 _).trans rfl) zm_138 rfl rfl ?_
  exact zte ((zd_138 _).trans rfl) zm_138 rfl
theorem t_implied2 {d : Nat} {w : zW} {a b c : Int32} {ms : List Value} {pl : Value} (hM : w.1 9 = some (.inr (5, .int 1 :: pl :: .int 0 :: ms))) : zmet (d + 2) 124 [.ref 9, .int 2, .int a, .int b, .int c] w (some (.int (-2))) w := by
  refine ⟨_, rfl, Nat.le_of_ble_eq_true rfl, ?_⟩
  show zev (d + 2) 124 0 [some (.ref 9), some (.int 2), some (.int a), some (.int b), some (.int c)] [] w _ _
  by_cases ha : a < 0 ∨ (1 : Int32) - 1 < a
  · refine zt (pc' := 1) ((zd_124 _).trans rfl) zm_124 rfl rfl ?_
    refine zt (pc' := 2) ((zd_124 _).trans rfl) zm_124 rfl rfl ?_
    refine zt_V (pc' := 5) ((zd_124 _).trans rfl) zm_124 rfl zq_7_158 rfl (Nat.le_of_ble_eq_true rfl) hM zqv_7_158_5 (by decide) rfl (c_isSort1_2 hM) ?_
    refine zt_ifF (tgt := 38) (pc' := 8) ((zd_124 _).trans rfl) zm_124 rfl rfl (zneq (by decide)) ?_
    refine zt (pc' := 9) ((zd_124 _).trans rfl) zm_124 rfl rfl ?_
    refine zt (pc' := 10) ((zd_124 _).trans rfl) zm_124 rfl rfl ?_
    refine zt_V (pc' := 13) ((zd_124 _).trans rfl) zm_124 rfl zq_7_77 rfl (Nat.le_of_ble_eq_true rfl) hM zqv_7_77_5 (by decide) rfl (c_isJoint0 hM ha) ?_
    refine zt_ifT (tgt := 38) (pc' := 16) ((zd_124 _).trans rfl) zm_124 rfl rfl (zeq rfl) ?_
    refine zt (pc' := 40) ((zd_124 _).trans rfl) zm_124 rfl rfl ?_
    exact zte ((zd_124 _).trans rfl) zm_124 rfl
  · have ha1 : ¬ a < 0 := fun h => ha (Or.inl h)
    have ha2 : ¬ (1 : Int32) - 1 < a := fun h => ha (Or.inr h)
    by_cases hb : b < 0 ∨ (1 : Int32) - 1 < b
    · refine zt (pc' := 1) ((zd_124 _).trans rfl) zm_124 rfl rfl ?_
      refine zt (pc' := 2) ((zd_124 _).trans rfl) zm_124 rfl rfl ?_
      refine zt_V (pc' := 5) ((zd_124 _).trans rfl) zm_124 rfl zq_7_158 rfl (Nat.le_of_ble_eq_true rfl) hM zqv_7_158_5 (by decide) rfl (c_isSort1_2 hM) ?_
      refine zt_ifF (tgt := 38) (pc' := 8) ((zd_124 _).trans rfl) zm_124 rfl rfl (zneq (by decide)) ?_
      refine zt (pc' := 9) ((zd_124 _).trans rfl) zm_124 rfl rfl ?_
      refine zt (pc' := 10) ((zd_124 _).trans rfl) zm_124 rfl rfl ?_
      refine zt_V (pc' := 13) ((zd_124 _).trans rfl) zm_124 rfl zq_7_77 rfl (Nat.le_of_ble_eq_true rfl) hM zqv_7_77_5 (by decide) rfl (c_isJoint1 hM ha1 ha2) ?_
      refine zt_ifF (tgt := 38) (pc' := 16) ((zd_124 _).trans rfl) zm_124 rfl rfl (zneq (by decide)) ?_
      refine zt (pc' := 17) ((zd_124 _).trans rfl) zm_124 rfl rfl ?_
      refine zt (pc' := 18) ((zd_124 _).trans rfl) zm_124 rfl rfl ?_
      refine zt_V (pc' := 21) ((zd_124 _).trans rfl) zm_124 rfl zq_7_77 rfl (Nat.le_of_ble_eq_true rfl) hM zqv_7_77_5 (by decide) rfl (c_isJoint0 hM hb) ?_
      refine zt_ifT (tgt := 38) (pc' := 24) ((zd_124 _).trans rfl) zm_124 rfl rfl (zeq rfl) ?_
      refine zt (pc' := 40) ((zd_124 _).trans rfl) zm_124 rfl rfl ?_
      exact zte ((zd_124 _).trans rfl) zm_124 rfl
    · have hb1 : ¬ b < 0 := fun h => hb (Or.inl h)
      have hb2 : ¬ (1 : Int32) - 1 < b := fun h => hb (Or.inr h)
      have hab : a = b := (z02 ha1 ha2).trans (z02 hb1 hb2).symm
      refine zt (pc' := 1) ((zd_124 _).trans rfl) zm_124 rfl rfl ?_
      refine zt (pc' := 2) ((zd_124 _).trans rfl) zm_124 rfl rfl ?_
      refine zt_V (pc' := 5) ((zd_124 _).trans rfl) zm_124 rfl zq_7_158 rfl (Nat.le_of_ble_eq_true rfl) hM zqv_7_158_5 (by decide) rfl (c_isSort1_2 hM) ?_
      refine zt_ifF (tgt := 38) (pc' := 8) ((zd_124 _).trans rfl) zm_124 rfl rfl (zneq (by decide)) ?_
      refine zt (pc' := 9) ((zd_124 _).trans rfl) zm_124 rfl rfl ?_
      refine zt (pc' := 10) ((zd_124 _).trans rfl) zm_124 rfl rfl ?_
      refine zt_V (pc' := 13) ((zd_124 _).trans rfl) zm_124 rfl zq_7_77 rfl (Nat.le_of_ble_eq_true rfl) hM zqv_7_77_5 (by decide) rfl (c_isJoint1 hM ha1 ha2) ?_
      refine zt_ifF (tgt := 38) (pc' := 16) ((zd_124 _).trans rfl) zm_124 rfl rfl (zneq (by decide)) ?_
      refine zt (pc' := 17) ((zd_124 _).trans rfl) zm_124 rfl rfl ?_
      refine zt (pc' := 18) ((zd_124 _).trans rfl) zm_124 rfl rfl ?_
      refine zt_V (pc' := 21) ((zd_124 _).trans rfl) zm_124 rfl zq_7_77 rfl (Nat.le_of_ble_eq_true rfl) hM zqv_7_77_5 (by decide) rfl (c_isJoint1 hM hb1 hb2) ?_
      refine zt_ifF (tgt := 38) (pc' := 24) ((zd_124 _).trans rfl) zm_124 rfl rfl (zneq (by decide)) ?_
      refine zt (pc' := 25) ((zd_124 _).trans rfl) zm_124 rfl rfl ?_
      refine zt (pc' := 26) ((zd_124 _).trans rfl) zm_124 rfl rfl ?_
      refine zt_icT (tgt := 38) (pc' := 29) ((zd_124 _).trans rfl) zm_124 rfl rfl (zeq hab) ?_
      refine zt (pc' := 40) ((zd_124 _).trans rfl) zm_124 rfl rfl ?_
      exact zte ((zd_124 _).trans rfl) zm_124 rfl
theorem t_rank2 {d : Nat} {w : zW} {b : Int32} {ms : List Value} {pl : Value} (hM : w.1 9 = some (.inr (5, .int 1 :: pl :: .int 0 :: ms))) (hb : b < 0 ∨ 1 <<< ((0 : Int32) &&& 31) - 1 < b) : zmet (d + 2) 154 [.ref 9, .int 2, .int b] w (some (.int (-2))) w := by
  refine ⟨_, rfl, Nat.le_of_ble_eq_true rfl, ?_⟩
  show zev (d + 2) 154 0 [some (.ref 9), some (.int 2), some (.int b)] [] w _ _
  refine zt (pc' := 1) ((zd_154 _).trans rfl) zm_154 rfl rfl ?_
  refine zt (pc' := 2) ((zd_154 _).trans rfl) zm_154 rfl rfl ?_
  refine zt_V (pc' := 5) ((zd_154 _).trans rfl) zm_154 rfl zq_7_158 rfl (Nat.le_of_ble_eq_true rfl) hM zqv_7_158_5 (by decide) rfl (c_isSort1_2 hM) ?_
  refine zt_ifF (tgt := 25) (pc' := 8) ((zd_154 _).trans rfl) zm_154 rfl rfl (zneq (by decide)) ?_
  refine zt (pc' := 9) ((zd_154 _).trans rfl) zm_154 rfl rfl ?_
  refine zt (pc' := 10) ((zd_154 _).trans rfl) zm_154 rfl rfl ?_
  refine zt_V (pc' := 13) ((zd_154 _).trans rfl) zm_154 rfl zq_7_161 rfl (Nat.le_of_ble_eq_true rfl) hM zqv_7_161_5 (by decide) rfl (c_isSet0 hM hb) ?_
  refine zt_ifT (tgt := 25) (pc' := 16) ((zd_154 _).trans rfl) zm_154 rfl rfl (zeq rfl) ?_
  refine zt (pc' := 27) ((zd_154 _).trans rfl) zm_154 rfl rfl ?_
  exact zte ((zd_154 _).trans rfl) zm_154 rfl
theorem t_closure2 {d : Nat} {w : zW} {b : Int32} {ms : List Value} {pl : Value} (hM : w.1 9 = some (.inr (5, .int 1 :: pl :: .int 0 :: ms))) (hb : b < 0 ∨ 1 <<< ((0 : Int32) &&& 31) - 1 < b) : zmet (d + 2) 111 [.ref 9, .int 2, .int b] w (some (.int (-2))) w := by
  refine ⟨_, rfl, Nat.le_of_ble_eq_true rfl, ?_⟩
  show zev (d + 2) 111 0 [some (.ref 9), some (.int 2), some (.int b)] [] w _ _
  refine zt (pc' := 1) ((zd_111 _).trans rfl) zm_111 rfl rfl ?_
  refine zt (pc' := 2) ((zd_111 _).trans rfl) zm_111 rfl rfl ?_
  refine zt_V (pc' := 5) ((zd_111 _).trans rfl) zm_111 rfl zq_7_158 rfl (Nat.le_of_ble_eq_true rfl) hM zqv_7_158_5 (by decide) rfl (c_isSort1_2 hM) ?_
  refine zt_ifF (tgt := 25) (pc' := 8) ((zd_111 _).trans rfl) zm_111 rfl rfl (zneq (by decide)) ?_
  refine zt (pc' := 9) ((zd_111 _).trans rfl) zm_111 rfl rfl ?_
  refine zt (pc' := 10) ((zd_111 _).trans rfl) zm_111 rfl rfl ?_
  refine zt_V (pc' := 13) ((zd_111 _).trans rfl) zm_111 rfl zq_7_161 rfl (Nat.le_of_ble_eq_true rfl) hM zqv_7_161_5 (by decide) rfl (c_isSet0 hM hb) ?_
  refine zt_ifT (tgt := 25) (pc' := 16) ((zd_111 _).trans rfl) zm_111 rfl rfl (zeq rfl) ?_
  refine zt (pc' := 27) ((zd_111 _).trans rfl) zm_111 rfl rfl ?_
  exact zte ((zd_111 _).trans rfl) zm_111 rfl
theorem t_many2 {d : Nat} {w : zW} {b : Int32} {ms : List Value} {pl : Value} (hM : w.1 9 = some (.inr (5, .int 1 :: pl :: .int 0 :: ms))) (hb : b < 0 ∨ 6 < b) : zmet (d + 2) 144 [.ref 9, .int 2, .int b] w (some (.int (-2))) w := by
  refine ⟨_, rfl, Nat.le_of_ble_eq_true rfl, ?_⟩
  show zev (d + 2) 144 0 [some (.ref 9), some (.int 2), some (.int b), none, none] [] w _ _
  refine zt (pc' := 1) ((zd_144 _).trans rfl) zm_144 rfl rfl ?_
  refine zt (pc' := 2) ((zd_144 _).trans rfl) zm_144 rfl rfl ?_
  refine zt_V (pc' := 5) ((zd_144 _).trans rfl) zm_144 rfl zq_7_158 rfl (Nat.le_of_ble_eq_true rfl) hM zqv_7_158_5 (by decide) rfl (c_isSort1_2 hM) ?_
  refine zt_ifF (tgt := 18) (pc' := 8) ((zd_144 _).trans rfl) zm_144 rfl rfl (zneq (by decide)) ?_
  refine zt (pc' := 9) ((zd_144 _).trans rfl) zm_144 rfl rfl ?_
  refine zt (pc' := 10) ((zd_144 _).trans rfl) zm_144 rfl rfl ?_
  refine zt (pc' := 12) ((zd_144 _).trans rfl) zm_144 rfl rfl ?_
  refine zt_S (pc' := 15) ((zd_144 _).trans rfl) zm_144 rfl zq_7_70 (Nat.le_of_ble_eq_true rfl) (Nat.le_of_ble_eq_true rfl) rfl (c_isIn0 hb) ?_
  refine zt_ifF (tgt := 21) (pc' := 18) ((zd_144 _).trans rfl) zm_144 rfl rfl (znne rfl) ?_
  refine zt (pc' := 20) ((zd_144 _).trans rfl) zm_144 rfl rfl ?_
  exact zte ((zd_144 _).trans rfl) zm_144 rfl
theorem t_told2 {d : Nat} {w : zW} {b c : Int32} {ms : List Value} {pl : Value} (hM : w.1 9 = some (.inr (5, .int 1 :: pl :: .int 0 :: ms))) (hb : b < 0 ∨ 6 < b) : zmet (d + 2) 166 [.ref 9, .int 2, .int b, .int c] w (some (.int (-2))) w := by
  refine ⟨_, rfl, Nat.le_of_ble_eq_true rfl, ?_⟩
  show zev (d + 2) 166 0 [some (.ref 9), some (.int 2), some (.int b), some (.int c), none, none, none] [] w _ _
  refine zt (pc' := 1) ((zd_166 _).trans rfl) zm_166 rfl rfl ?_
  refine zt (pc' := 2) ((zd_166 _).trans rfl) zm_166 rfl rfl ?_
  refine zt_V (pc' := 5) ((zd_166 _).trans rfl) zm_166 rfl zq_7_158 rfl (Nat.le_of_ble_eq_true rfl) hM zqv_7_158_5 (by decide) rfl (c_isSort1_2 hM) ?_
  refine zt_ifF (tgt := 18) (pc' := 8) ((zd_166 _).trans rfl) zm_166 rfl rfl (zneq (by decide)) ?_
  refine zt (pc' := 9) ((zd_166 _).trans rfl) zm_166 rfl rfl ?_
  refine zt (pc' := 10) ((zd_166 _).trans rfl) zm_166 rfl rfl ?_
  refine zt (pc' := 12) ((zd_166 _).trans rfl) zm_166 rfl rfl ?_
  refine zt_S (pc' := 15) ((zd_166 _).trans rfl) zm_166 rfl zq_7_70 (Nat.le_of_ble_eq_true rfl) (Nat.le_of_ble_eq_true rfl) rfl (c_isIn0 hb) ?_
  refine zt_ifF (tgt := 21) (pc' := 18) ((zd_166 _).trans rfl) zm_166 rfl rfl (znne rfl) ?_
  refine zt (pc' := 20) ((zd_166 _).trans rfl) zm_166 rfl rfl ?_
  exact zte ((zd_166 _).trans rfl) zm_166 rfl
