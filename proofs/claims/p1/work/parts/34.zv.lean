/-! joint: any arguments (printed by wip/gen/ref6.py) -/
theorem zm_20 : zMt[20]? = some (yX1_move, cX1_move, 6, (some .boolean), 1, false) := rfl
theorem zd_20 (pc : Nat) : zdec 20 pc = zdl_20.lookup pc := rfl
theorem zm_86 : zMt[86]? = some (yX6_joint, cX6_joint, 5, (some .int), 6, false) := rfl
theorem zd_86 (pc : Nat) : zdec 86 pc = zdl_86.lookup pc := rfl
theorem zm_108 : zMt[108]? = some (yX7_change, cX7_change, 1, none, 7, false) := rfl
theorem zd_108 (pc : Nat) : zdec 108 pc = zdl_108.lookup pc := rfl
theorem zm_141 : zMt[141]? = some (yX7_joint, cX7_joint, 7, (some .int), 7, false) := rfl
theorem zd_141 (pc : Nat) : zdec 141 pc = zdl_141.lookup pc := rfl
theorem zq_6_38 : zcl 6 38 = some (2, 0, 85, 1) := by decide +kernel
theorem zq_6_41 : zcl 6 41 = some (3, 1, 20, 4) := by decide +kernel
theorem zq_7_67 : zcl 7 67 = some (3, 5, 108, 0) := by decide +kernel
theorem zq_7_81 : zcl 7 81 = some (2, 0, 139, 1) := by decide +kernel
theorem zqv_6_41_1 : zclv 6 41 1 = some (3, 1, 20, 4) := by decide +kernel
theorem zqv_7_67_5 : zclv 7 67 5 = some (3, 5, 108, 0) := by decide +kernel
theorem zdQ_20_0 : zdec 20 0 = some (.iload_n 1, 1) := by decide +kernel
theorem zdQ_20_1 : zdec 20 1 = some (.iconst 3, 1) := by decide +kernel
theorem zdQ_20_2 : zdec 20 2 = some (.imul, 1) := by decide +kernel
theorem zdQ_20_3 : zdec 20 3 = some (.istore 5, 2) := by decide +kernel
theorem zdQ_20_5 : zdec 20 5 = some (.aload_n 0, 1) := by decide +kernel
theorem zdQ_20_6 : zdec 20 6 = some (.getfield 9, 3) := by decide +kernel
theorem zdQ_20_9 : zdec 20 9 = some (.iload 5, 2) := by decide +kernel
theorem zdQ_20_11 : zdec 20 11 = some (.iaload, 1) := by decide +kernel
theorem zdQ_20_12 : zdec 20 12 = some (.iload_n 2, 1) := by decide +kernel
theorem zdQ_20_13 : zdec 20 13 = some (.if_icmp .ne 32, 3) := by decide +kernel
theorem zdQ_20_16 : zdec 20 16 = some (.aload_n 0, 1) := by decide +kernel
theorem zdQ_20_17 : zdec 20 17 = some (.getfield 9, 3) := by decide +kernel
theorem zdQ_20_20 : zdec 20 20 = some (.iload 5, 2) := by decide +kernel
theorem zdQ_20_22 : zdec 20 22 = some (.iconst 1, 1) := by decide +kernel
theorem zdQ_20_23 : zdec 20 23 = some (.iadd, 1) := by decide +kernel
theorem zdQ_20_24 : zdec 20 24 = some (.iaload, 1) := by decide +kernel
theorem zdQ_20_25 : zdec 20 25 = some (.iload_n 3, 1) := by decide +kernel
theorem zdQ_20_26 : zdec 20 26 = some (.if_icmp .ne 19, 3) := by decide +kernel
theorem zdQ_20_29 : zdec 20 29 = some (.aload_n 0, 1) := by decide +kernel
theorem zdQ_20_30 : zdec 20 30 = some (.getfield 9, 3) := by decide +kernel
theorem zdQ_20_33 : zdec 20 33 = some (.iload 5, 2) := by decide +kernel
theorem zdQ_20_35 : zdec 20 35 = some (.iconst 2, 1) := by decide +kernel
theorem zdQ_20_36 : zdec 20 36 = some (.iadd, 1) := by decide +kernel
theorem zdQ_20_37 : zdec 20 37 = some (.iaload, 1) := by decide +kernel
theorem zdQ_20_38 : zdec 20 38 = some (.iload 4, 2) := by decide +kernel
theorem zdQ_20_40 : zdec 20 40 = some (.if_icmp .ne 5, 3) := by decide +kernel
theorem zdQ_20_43 : zdec 20 43 = some (.iconst 0, 1) := by decide +kernel
theorem zdQ_20_44 : zdec 20 44 = some (.ireturn, 1) := by decide +kernel
theorem zdQ_20_45 : zdec 20 45 = some (.aload_n 0, 1) := by decide +kernel
theorem zdQ_20_46 : zdec 20 46 = some (.getfield 9, 3) := by decide +kernel
theorem zdQ_20_49 : zdec 20 49 = some (.iload 5, 2) := by decide +kernel
theorem zdQ_20_51 : zdec 20 51 = some (.iload_n 2, 1) := by decide +kernel
theorem zdQ_20_52 : zdec 20 52 = some (.iastore, 1) := by decide +kernel
theorem zdQ_20_53 : zdec 20 53 = some (.aload_n 0, 1) := by decide +kernel
theorem zdQ_20_54 : zdec 20 54 = some (.getfield 9, 3) := by decide +kernel
theorem zdQ_20_57 : zdec 20 57 = some (.iload 5, 2) := by decide +kernel
theorem zdQ_20_59 : zdec 20 59 = some (.iconst 1, 1) := by decide +kernel
theorem zdQ_20_60 : zdec 20 60 = some (.iadd, 1) := by decide +kernel
theorem zdQ_20_61 : zdec 20 61 = some (.iload_n 3, 1) := by decide +kernel
theorem zdQ_20_62 : zdec 20 62 = some (.iastore, 1) := by decide +kernel
theorem zdQ_20_63 : zdec 20 63 = some (.aload_n 0, 1) := by decide +kernel
theorem zdQ_20_64 : zdec 20 64 = some (.getfield 9, 3) := by decide +kernel
theorem zdQ_20_67 : zdec 20 67 = some (.iload 5, 2) := by decide +kernel
theorem zdQ_20_69 : zdec 20 69 = some (.iconst 2, 1) := by decide +kernel
theorem zdQ_20_70 : zdec 20 70 = some (.iadd, 1) := by decide +kernel
theorem zdQ_20_71 : zdec 20 71 = some (.iload 4, 2) := by decide +kernel
theorem zdQ_20_73 : zdec 20 73 = some (.iastore, 1) := by decide +kernel
theorem zdQ_20_74 : zdec 20 74 = some (.aload_n 0, 1) := by decide +kernel
theorem zdQ_20_75 : zdec 20 75 = some (.dup, 1) := by decide +kernel
theorem zdQ_20_76 : zdec 20 76 = some (.getfield 31, 3) := by decide +kernel
theorem zdQ_20_79 : zdec 20 79 = some (.iconst 1, 1) := by decide +kernel
theorem zdQ_20_80 : zdec 20 80 = some (.iadd, 1) := by decide +kernel
theorem zdQ_20_81 : zdec 20 81 = some (.putfield 31, 3) := by decide +kernel
theorem zdQ_20_84 : zdec 20 84 = some (.iconst 1, 1) := by decide +kernel
theorem zdQ_20_85 : zdec 20 85 = some (.ireturn, 1) := by decide +kernel
theorem zdQ_86_0 : zdec 86 0 = some (.aload_n 0, 1) := by decide +kernel
theorem zdQ_86_1 : zdec 86 1 = some (.getfield 12, 3) := by decide +kernel
theorem zdQ_86_4 : zdec 86 4 = some (.iload_n 1, 1) := by decide +kernel
theorem zdQ_86_5 : zdec 86 5 = some (.invokevirtual 34, 3) := by decide +kernel
theorem zdQ_86_8 : zdec 86 8 = some (.ifCond .eq 25, 3) := by decide +kernel
theorem zdQ_86_11 : zdec 86 11 = some (.iload_n 2, 1) := by decide +kernel
theorem zdQ_86_12 : zdec 86 12 = some (.invokestatic 38, 3) := by decide +kernel
theorem zdQ_86_15 : zdec 86 15 = some (.ifCond .ne 18, 3) := by decide +kernel
theorem zdQ_86_18 : zdec 86 18 = some (.iload_n 3, 1) := by decide +kernel
theorem zdQ_86_19 : zdec 86 19 = some (.invokestatic 38, 3) := by decide +kernel
theorem zdQ_86_22 : zdec 86 22 = some (.ifCond .ne 11, 3) := by decide +kernel
theorem zdQ_86_25 : zdec 86 25 = some (.iload 4, 2) := by decide +kernel
theorem zdQ_86_27 : zdec 86 27 = some (.invokestatic 38, 3) := by decide +kernel
theorem zdQ_86_30 : zdec 86 30 = some (.ifCond .eq 6, 3) := by decide +kernel
theorem zdQ_86_33 : zdec 86 33 = some (.bipush (-2), 2) := by decide +kernel
theorem zdQ_86_35 : zdec 86 35 = some (.ireturn, 1) := by decide +kernel
theorem zdQ_86_36 : zdec 86 36 = some (.aload_n 0, 1) := by decide +kernel
theorem zdQ_86_37 : zdec 86 37 = some (.getfield 12, 3) := by decide +kernel
theorem zdQ_86_40 : zdec 86 40 = some (.iload_n 1, 1) := by decide +kernel
theorem zdQ_86_41 : zdec 86 41 = some (.iload_n 2, 1) := by decide +kernel
theorem zdQ_86_42 : zdec 86 42 = some (.iload_n 3, 1) := by decide +kernel
theorem zdQ_86_43 : zdec 86 43 = some (.iload 4, 2) := by decide +kernel
theorem zdQ_86_45 : zdec 86 45 = some (.invokevirtual 41, 3) := by decide +kernel
theorem zdQ_86_48 : zdec 86 48 = some (.ifCond .eq 7, 3) := by decide +kernel
theorem zdQ_86_51 : zdec 86 51 = some (.iconst 1, 1) := by decide +kernel
theorem zdQ_86_52 : zdec 86 52 = some (.goto 4, 3) := by decide +kernel
theorem zdQ_86_55 : zdec 86 55 = some (.iconst 0, 1) := by decide +kernel
theorem zdQ_86_56 : zdec 86 56 = some (.ireturn, 1) := by decide +kernel
theorem zdQ_108_0 : zdec 108 0 = some (.aload_n 0, 1) := by decide +kernel
theorem zdQ_108_1 : zdec 108 1 = some (.getfield 29, 3) := by decide +kernel
theorem zdQ_108_4 : zdec 108 4 = some (.iconst 0, 1) := by decide +kernel
theorem zdQ_108_5 : zdec 108 5 = some (.iconst 0, 1) := by decide +kernel
theorem zdQ_108_6 : zdec 108 6 = some (.bastore, 1) := by decide +kernel
theorem zdQ_108_7 : zdec 108 7 = some (.aload_n 0, 1) := by decide +kernel
theorem zdQ_108_8 : zdec 108 8 = some (.getfield 29, 3) := by decide +kernel
theorem zdQ_108_11 : zdec 108 11 = some (.iconst 1, 1) := by decide +kernel
theorem zdQ_108_12 : zdec 108 12 = some (.iconst 0, 1) := by decide +kernel
theorem zdQ_108_13 : zdec 108 13 = some (.bastore, 1) := by decide +kernel
theorem zdQ_108_14 : zdec 108 14 = some (.aload_n 0, 1) := by decide +kernel
theorem zdQ_108_15 : zdec 108 15 = some (.getfield 29, 3) := by decide +kernel
theorem zdQ_108_18 : zdec 108 18 = some (.iconst 2, 1) := by decide +kernel
theorem zdQ_108_19 : zdec 108 19 = some (.iconst 0, 1) := by decide +kernel
theorem zdQ_108_20 : zdec 108 20 = some (.bastore, 1) := by decide +kernel
theorem zdQ_108_21 : zdec 108 21 = some (.return_, 1) := by decide +kernel
theorem zdQ_141_0 : zdec 141 0 = some (.aload_n 0, 1) := by decide +kernel
theorem zdQ_141_1 : zdec 141 1 = some (.iload_n 1, 1) := by decide +kernel
theorem zdQ_141_2 : zdec 141 2 = some (.invokevirtual 77, 3) := by decide +kernel
theorem zdQ_141_5 : zdec 141 5 = some (.ifCond .eq 25, 3) := by decide +kernel
theorem zdQ_141_8 : zdec 141 8 = some (.iload_n 2, 1) := by decide +kernel
theorem zdQ_141_9 : zdec 141 9 = some (.invokestatic 81, 3) := by decide +kernel
theorem zdQ_141_12 : zdec 141 12 = some (.ifCond .eq 18, 3) := by decide +kernel
theorem zdQ_141_15 : zdec 141 15 = some (.iload_n 3, 1) := by decide +kernel
theorem zdQ_141_16 : zdec 141 16 = some (.invokestatic 81, 3) := by decide +kernel
theorem zdQ_141_19 : zdec 141 19 = some (.ifCond .eq 11, 3) := by decide +kernel
theorem zdQ_141_22 : zdec 141 22 = some (.iload 4, 2) := by decide +kernel
theorem zdQ_141_24 : zdec 141 24 = some (.invokestatic 81, 3) := by decide +kernel
theorem zdQ_141_27 : zdec 141 27 = some (.ifCond .ne 6, 3) := by decide +kernel
theorem zdQ_141_30 : zdec 141 30 = some (.bipush (-2), 2) := by decide +kernel
theorem zdQ_141_32 : zdec 141 32 = some (.ireturn, 1) := by decide +kernel
theorem zdQ_141_33 : zdec 141 33 = some (.iconst 3, 1) := by decide +kernel
theorem zdQ_141_34 : zdec 141 34 = some (.iload_n 1, 1) := by decide +kernel
theorem zdQ_141_35 : zdec 141 35 = some (.imul, 1) := by decide +kernel
theorem zdQ_141_36 : zdec 141 36 = some (.istore 5, 2) := by decide +kernel
theorem zdQ_141_38 : zdec 141 38 = some (.aload_n 0, 1) := by decide +kernel
theorem zdQ_141_39 : zdec 141 39 = some (.getfield 13, 3) := by decide +kernel
theorem zdQ_141_42 : zdec 141 42 = some (.iload 5, 2) := by decide +kernel
theorem zdQ_141_44 : zdec 141 44 = some (.iaload, 1) := by decide +kernel
theorem zdQ_141_45 : zdec 141 45 = some (.iload_n 2, 1) := by decide +kernel
theorem zdQ_141_46 : zdec 141 46 = some (.if_icmp .ne 30, 3) := by decide +kernel
theorem zdQ_141_49 : zdec 141 49 = some (.aload_n 0, 1) := by decide +kernel
theorem zdQ_141_50 : zdec 141 50 = some (.getfield 13, 3) := by decide +kernel
theorem zdQ_141_53 : zdec 141 53 = some (.iload 5, 2) := by decide +kernel
theorem zdQ_141_55 : zdec 141 55 = some (.iconst 1, 1) := by decide +kernel
theorem zdQ_141_56 : zdec 141 56 = some (.iadd, 1) := by decide +kernel
theorem zdQ_141_57 : zdec 141 57 = some (.iaload, 1) := by decide +kernel
theorem zdQ_141_58 : zdec 141 58 = some (.iload_n 3, 1) := by decide +kernel
theorem zdQ_141_59 : zdec 141 59 = some (.if_icmp .ne 17, 3) := by decide +kernel
theorem zdQ_141_62 : zdec 141 62 = some (.aload_n 0, 1) := by decide +kernel
theorem zdQ_141_63 : zdec 141 63 = some (.getfield 13, 3) := by decide +kernel
theorem zdQ_141_66 : zdec 141 66 = some (.iload 5, 2) := by decide +kernel
theorem zdQ_141_68 : zdec 141 68 = some (.iconst 2, 1) := by decide +kernel
theorem zdQ_141_69 : zdec 141 69 = some (.iadd, 1) := by decide +kernel
theorem zdQ_141_70 : zdec 141 70 = some (.iaload, 1) := by decide +kernel
theorem zdQ_141_71 : zdec 141 71 = some (.iload 4, 2) := by decide +kernel
theorem zdQ_141_73 : zdec 141 73 = some (.if_icmp .eq 7, 3) := by decide +kernel
theorem zdQ_141_76 : zdec 141 76 = some (.iconst 1, 1) := by decide +kernel
theorem zdQ_141_77 : zdec 141 77 = some (.goto 4, 3) := by decide +kernel
theorem zdQ_141_80 : zdec 141 80 = some (.iconst 0, 1) := by decide +kernel
theorem zdQ_141_81 : zdec 141 81 = some (.istore 6, 2) := by decide +kernel
theorem zdQ_141_83 : zdec 141 83 = some (.aload_n 0, 1) := by decide +kernel
theorem zdQ_141_84 : zdec 141 84 = some (.getfield 13, 3) := by decide +kernel
theorem zdQ_141_87 : zdec 141 87 = some (.iload 5, 2) := by decide +kernel
theorem zdQ_141_89 : zdec 141 89 = some (.iload_n 2, 1) := by decide +kernel
theorem zdQ_141_90 : zdec 141 90 = some (.iastore, 1) := by decide +kernel
theorem zdQ_141_91 : zdec 141 91 = some (.aload_n 0, 1) := by decide +kernel
theorem zdQ_141_92 : zdec 141 92 = some (.getfield 13, 3) := by decide +kernel
theorem zdQ_141_95 : zdec 141 95 = some (.iload 5, 2) := by decide +kernel
theorem zdQ_141_97 : zdec 141 97 = some (.iconst 1, 1) := by decide +kernel
theorem zdQ_141_98 : zdec 141 98 = some (.iadd, 1) := by decide +kernel
theorem zdQ_141_99 : zdec 141 99 = some (.iload_n 3, 1) := by decide +kernel
theorem zdQ_141_100 : zdec 141 100 = some (.iastore, 1) := by decide +kernel
theorem zdQ_141_101 : zdec 141 101 = some (.aload_n 0, 1) := by decide +kernel
theorem zdQ_141_102 : zdec 141 102 = some (.getfield 13, 3) := by decide +kernel
theorem zdQ_141_105 : zdec 141 105 = some (.iload 5, 2) := by decide +kernel
theorem zdQ_141_107 : zdec 141 107 = some (.iconst 2, 1) := by decide +kernel
theorem zdQ_141_108 : zdec 141 108 = some (.iadd, 1) := by decide +kernel
theorem zdQ_141_109 : zdec 141 109 = some (.iload 4, 2) := by decide +kernel
theorem zdQ_141_111 : zdec 141 111 = some (.iastore, 1) := by decide +kernel
theorem zdQ_141_112 : zdec 141 112 = some (.aload_n 0, 1) := by decide +kernel
theorem zdQ_141_113 : zdec 141 113 = some (.invokevirtual 67, 3) := by decide +kernel
theorem zdQ_141_116 : zdec 141 116 = some (.iload 6, 2) := by decide +kernel
theorem zdQ_141_118 : zdec 141 118 = some (.ifCond .eq 7, 3) := by decide +kernel
theorem zdQ_141_121 : zdec 141 121 = some (.iconst 1, 1) := by decide +kernel
theorem zdQ_141_122 : zdec 141 122 = some (.goto 4, 3) := by decide +kernel
theorem zdQ_141_125 : zdec 141 125 = some (.iconst 0, 1) := by decide +kernel
theorem zdQ_141_126 : zdec 141 126 = some (.ireturn, 1) := by decide +kernel
theorem zr_far {d : Nat} {w : zW} {v : Int32} (h : v < -4 ∨ 4 < v) : zmet d 85 [.int v] w (some (.int 1)) w := by
  by_cases h1 : v < -4
  · exact c_far1a h1
  · exact c_far1b h1 (Int32.not_le.mpr (h.resolve_left h1))
theorem zr_nfar {d : Nat} {w : zW} {v : Int32} (h : ¬ (v < -4 ∨ 4 < v)) : zmet d 85 [.int v] w (some (.int 0)) w := c_far0 (fun k => h (Or.inl k)) (Int32.not_lt.mp (fun k => h (Or.inr k)))
theorem zr_way {d : Nat} {w : zW} {v : Int32} (h : ¬ (v < -4 ∨ 4 < v)) : zmet (d + 1) 139 [.int v] w (some (.int 1)) w := c_isWay1 (fun k => h (Or.inl k)) (fun k => h (Or.inr k))
theorem zr_j0 {d : Nat} {w : zW} {v x y z : Int32} {q1 q2 : Value} (hX : w.1 1 = some (.inr (4, [.ref 2, q1, q2]))) {p0 p1 p2 p3 : Value} {ve : Int32} (hF : w.1 2 = some (.inr (1, [p0, p1, p2, p3, .int 1, .int 0, .int ve]))) (h : v < 0 ∨ (1 : Int32) ≤ v) : zmet (d + 1) 86 [.ref 1, .int v, .int x, .int y, .int z] w (some (.int (-2))) w := by
  refine ⟨_, rfl, Nat.le_of_ble_eq_true rfl, ?_⟩
  show zev (d + 1) 86 0 [some (.ref 1), some (.int v), some (.int x), some (.int y), some (.int z)] [] w _ _
  refine zt (pc' := 1) zdQ_86_0 zm_86 rfl rfl ?_
  refine zt_get (pc' := 4) zdQ_86_1 zm_86 rfl rfl hX (by decide) rfl ?_
  refine zt (pc' := 5) zdQ_86_4 zm_86 rfl rfl ?_
  refine zt_V (pc' := 8) zdQ_86_5 zm_86 rfl zq_6_34 rfl (Nat.le_of_ble_eq_true rfl) hF zqv_6_34_1 (by decide) rfl (c_hasJoint0 hF h) ?_
  refine zt_ifT (tgt := 33) (pc' := 11) zdQ_86_8 zm_86 rfl rfl (zeq rfl) ?_
  refine zt (pc' := 35) zdQ_86_33 zm_86 rfl rfl ?_
  exact zte zdQ_86_35 zm_86 rfl
theorem zr_j1 {d : Nat} {w : zW} {v x y z : Int32} {q1 q2 : Value} (hX : w.1 1 = some (.inr (4, [.ref 2, q1, q2]))) {p0 p1 p2 p3 : Value} {ve : Int32} (hF : w.1 2 = some (.inr (1, [p0, p1, p2, p3, .int 1, .int 0, .int ve]))) (h1 : ¬ v < 0) (h2 : ¬ (1 : Int32) ≤ v) (h : x < -4 ∨ 4 < x) : zmet (d + 1) 86 [.ref 1, .int v, .int x, .int y, .int z] w (some (.int (-2))) w := by
  refine ⟨_, rfl, Nat.le_of_ble_eq_true rfl, ?_⟩
  show zev (d + 1) 86 0 [some (.ref 1), some (.int v), some (.int x), some (.int y), some (.int z)] [] w _ _
  refine zt (pc' := 1) zdQ_86_0 zm_86 rfl rfl ?_
  refine zt_get (pc' := 4) zdQ_86_1 zm_86 rfl rfl hX (by decide) rfl ?_
  refine zt (pc' := 5) zdQ_86_4 zm_86 rfl rfl ?_
  refine zt_V (pc' := 8) zdQ_86_5 zm_86 rfl zq_6_34 rfl (Nat.le_of_ble_eq_true rfl) hF zqv_6_34_1 (by decide) rfl (c_hasJoint1 hF h1 h2) ?_
  refine zt_ifF (tgt := 33) (pc' := 11) zdQ_86_8 zm_86 rfl rfl (zneq (by decide)) ?_
  refine zt (pc' := 12) zdQ_86_11 zm_86 rfl rfl ?_
  refine zt_S (pc' := 15) zdQ_86_12 zm_86 rfl zq_6_38 (Nat.le_of_ble_eq_true rfl) (Nat.le_of_ble_eq_true rfl) rfl (zr_far h) ?_
  refine zt_ifT (tgt := 33) (pc' := 18) zdQ_86_15 zm_86 rfl rfl (zne (by decide)) ?_
  refine zt (pc' := 35) zdQ_86_33 zm_86 rfl rfl ?_
  exact zte zdQ_86_35 zm_86 rfl
theorem zr_j2 {d : Nat} {w : zW} {v x y z : Int32} {q1 q2 : Value} (hX : w.1 1 = some (.inr (4, [.ref 2, q1, q2]))) {p0 p1 p2 p3 : Value} {ve : Int32} (hF : w.1 2 = some (.inr (1, [p0, p1, p2, p3, .int 1, .int 0, .int ve]))) (h1 : ¬ v < 0) (h2 : ¬ (1 : Int32) ≤ v) (nx : ¬ (x < -4 ∨ 4 < x)) (h : y < -4 ∨ 4 < y) : zmet (d + 1) 86 [.ref 1, .int v, .int x, .int y, .int z] w (some (.int (-2))) w := by
  refine ⟨_, rfl, Nat.le_of_ble_eq_true rfl, ?_⟩
  show zev (d + 1) 86 0 [some (.ref 1), some (.int v), some (.int x), some (.int y), some (.int z)] [] w _ _
  refine zt (pc' := 1) zdQ_86_0 zm_86 rfl rfl ?_
  refine zt_get (pc' := 4) zdQ_86_1 zm_86 rfl rfl hX (by decide) rfl ?_
  refine zt (pc' := 5) zdQ_86_4 zm_86 rfl rfl ?_
  refine zt_V (pc' := 8) zdQ_86_5 zm_86 rfl zq_6_34 rfl (Nat.le_of_ble_eq_true rfl) hF zqv_6_34_1 (by decide) rfl (c_hasJoint1 hF h1 h2) ?_
  refine zt_ifF (tgt := 33) (pc' := 11) zdQ_86_8 zm_86 rfl rfl (zneq (by decide)) ?_
  refine zt (pc' := 12) zdQ_86_11 zm_86 rfl rfl ?_
  refine zt_S (pc' := 15) zdQ_86_12 zm_86 rfl zq_6_38 (Nat.le_of_ble_eq_true rfl) (Nat.le_of_ble_eq_true rfl) rfl (zr_nfar nx) ?_
  refine zt_ifF (tgt := 33) (pc' := 18) zdQ_86_15 zm_86 rfl rfl (znne rfl) ?_
  refine zt (pc' := 19) zdQ_86_18 zm_86 rfl rfl ?_
  refine zt_S (pc' := 22) zdQ_86_19 zm_86 rfl zq_6_38 (Nat.le_of_ble_eq_true rfl) (Nat.le_of_ble_eq_true rfl) rfl (zr_far h) ?_
  refine zt_ifT (tgt := 33) (pc' := 25) zdQ_86_22 zm_86 rfl rfl (zne (by decide)) ?_
  refine zt (pc' := 35) zdQ_86_33 zm_86 rfl rfl ?_
  exact zte zdQ_86_35 zm_86 rfl
theorem zr_j3 {d : Nat} {w : zW} {v x y z : Int32} {q1 q2 : Value} (hX : w.1 1 = some (.inr (4, [.ref 2, q1, q2]))) {p0 p1 p2 p3 : Value} {ve : Int32} (hF : w.1 2 = some (.inr (1, [p0, p1, p2, p3, .int 1, .int 0, .int ve]))) (h1 : ¬ v < 0) (h2 : ¬ (1 : Int32) ≤ v) (nx : ¬ (x < -4 ∨ 4 < x)) (ny : ¬ (y < -4 ∨ 4 < y)) (h : z < -4 ∨ 4 < z) : zmet (d + 1) 86 [.ref 1, .int v, .int x, .int y, .int z] w (some (.int (-2))) w := by
  refine ⟨_, rfl, Nat.le_of_ble_eq_true rfl, ?_⟩
  show zev (d + 1) 86 0 [some (.ref 1), some (.int v), some (.int x), some (.int y), some (.int z)] [] w _ _
  refine zt (pc' := 1) zdQ_86_0 zm_86 rfl rfl ?_
  refine zt_get (pc' := 4) zdQ_86_1 zm_86 rfl rfl hX (by decide) rfl ?_
  refine zt (pc' := 5) zdQ_86_4 zm_86 rfl rfl ?_
  refine zt_V (pc' := 8) zdQ_86_5 zm_86 rfl zq_6_34 rfl (Nat.le_of_ble_eq_true rfl) hF zqv_6_34_1 (by decide) rfl (c_hasJoint1 hF h1 h2) ?_
  refine zt_ifF (tgt := 33) (pc' := 11) zdQ_86_8 zm_86 rfl rfl (zneq (by decide)) ?_
  refine zt (pc' := 12) zdQ_86_11 zm_86 rfl rfl ?_
  refine zt_S (pc' := 15) zdQ_86_12 zm_86 rfl zq_6_38 (Nat.le_of_ble_eq_true rfl) (Nat.le_of_ble_eq_true rfl) rfl (zr_nfar nx) ?_
  refine zt_ifF (tgt := 33) (pc' := 18) zdQ_86_15 zm_86 rfl rfl (znne rfl) ?_
  refine zt (pc' := 19) zdQ_86_18 zm_86 rfl rfl ?_
  refine zt_S (pc' := 22) zdQ_86_19 zm_86 rfl zq_6_38 (Nat.le_of_ble_eq_true rfl) (Nat.le_of_ble_eq_true rfl) rfl (zr_nfar ny) ?_
  refine zt_ifF (tgt := 33) (pc' := 25) zdQ_86_22 zm_86 rfl rfl (znne rfl) ?_
  refine zt (pc' := 27) zdQ_86_25 zm_86 rfl rfl ?_
  refine zt_S (pc' := 30) zdQ_86_27 zm_86 rfl zq_6_38 (Nat.le_of_ble_eq_true rfl) (Nat.le_of_ble_eq_true rfl) rfl (zr_far h) ?_
  refine zt_ifF (tgt := 36) (pc' := 33) zdQ_86_30 zm_86 rfl rfl (zneq (by decide)) ?_
  refine zt (pc' := 35) zdQ_86_33 zm_86 rfl rfl ?_
  exact zte zdQ_86_35 zm_86 rfl
set_option maxHeartbeats 8000000 in
theorem zr_j4_0 {d : Nat} {w w2 : zW} {v x y z : Int32} {q1 q2 : Value} (hX : w.1 1 = some (.inr (4, [.ref 2, q1, q2]))) {p0 p1 p2 p3 : Value} {ve : Int32} (hF : w.1 2 = some (.inr (1, [p0, p1, p2, p3, .int 1, .int 0, .int ve]))) (h1 : ¬ v < 0) (h2 : ¬ (1 : Int32) ≤ v) (nx : ¬ (x < -4 ∨ 4 < x)) (ny : ¬ (y < -4 ∨ 4 < y)) (nz : ¬ (z < -4 ∨ 4 < z)) (hm : zmet d 20 [.ref 2, .int v, .int x, .int y, .int z] w (some (.int 0)) w2) : zmet (d + 1) 86 [.ref 1, .int v, .int x, .int y, .int z] w (some (.int 0)) w2 := by
  refine ⟨_, rfl, Nat.le_of_ble_eq_true rfl, ?_⟩
  show zev (d + 1) 86 0 [some (.ref 1), some (.int v), some (.int x), some (.int y), some (.int z)] [] w _ _
  refine zt (pc' := 1) zdQ_86_0 zm_86 rfl rfl ?_
  refine zt_get (pc' := 4) zdQ_86_1 zm_86 rfl rfl hX (by decide) rfl ?_
  refine zt (pc' := 5) zdQ_86_4 zm_86 rfl rfl ?_
  refine zt_V (pc' := 8) zdQ_86_5 zm_86 rfl zq_6_34 rfl (Nat.le_of_ble_eq_true rfl) hF zqv_6_34_1 (by decide) rfl (c_hasJoint1 hF h1 h2) ?_
  refine zt_ifF (tgt := 33) (pc' := 11) zdQ_86_8 zm_86 rfl rfl (zneq (by decide)) ?_
  refine zt (pc' := 12) zdQ_86_11 zm_86 rfl rfl ?_
  refine zt_S (pc' := 15) zdQ_86_12 zm_86 rfl zq_6_38 (Nat.le_of_ble_eq_true rfl) (Nat.le_of_ble_eq_true rfl) rfl (zr_nfar nx) ?_
  refine zt_ifF (tgt := 33) (pc' := 18) zdQ_86_15 zm_86 rfl rfl (znne rfl) ?_
  refine zt (pc' := 19) zdQ_86_18 zm_86 rfl rfl ?_
  refine zt_S (pc' := 22) zdQ_86_19 zm_86 rfl zq_6_38 (Nat.le_of_ble_eq_true rfl) (Nat.le_of_ble_eq_true rfl) rfl (zr_nfar ny) ?_
  refine zt_ifF (tgt := 33) (pc' := 25) zdQ_86_22 zm_86 rfl rfl (znne rfl) ?_
  refine zt (pc' := 27) zdQ_86_25 zm_86 rfl rfl ?_
  refine zt_S (pc' := 30) zdQ_86_27 zm_86 rfl zq_6_38 (Nat.le_of_ble_eq_true rfl) (Nat.le_of_ble_eq_true rfl) rfl (zr_nfar nz) ?_
  refine zt_ifT (tgt := 36) (pc' := 33) zdQ_86_30 zm_86 rfl rfl (zeq rfl) ?_
  refine zt (pc' := 37) zdQ_86_36 zm_86 rfl rfl ?_
  refine zt_get (pc' := 40) zdQ_86_37 zm_86 rfl rfl hX (by decide) rfl ?_
  refine zt (pc' := 41) zdQ_86_40 zm_86 rfl rfl ?_
  refine zt (pc' := 42) zdQ_86_41 zm_86 rfl rfl ?_
  refine zt (pc' := 43) zdQ_86_42 zm_86 rfl rfl ?_
  refine zt (pc' := 45) zdQ_86_43 zm_86 rfl rfl ?_
  refine zt_V (pc' := 48) zdQ_86_45 zm_86 rfl zq_6_41 rfl (Nat.le_of_ble_eq_true rfl) hF zqv_6_41_1 (by decide) rfl (hm) ?_
  refine zt_ifT (tgt := 55) (pc' := 51) zdQ_86_48 zm_86 rfl rfl (zeq rfl) ?_
  refine zt (pc' := 56) zdQ_86_55 zm_86 rfl rfl ?_
  exact zte zdQ_86_56 zm_86 rfl
set_option maxHeartbeats 8000000 in
theorem zr_j4_1 {d : Nat} {w w2 : zW} {v x y z : Int32} {q1 q2 : Value} (hX : w.1 1 = some (.inr (4, [.ref 2, q1, q2]))) {p0 p1 p2 p3 : Value} {ve : Int32} (hF : w.1 2 = some (.inr (1, [p0, p1, p2, p3, .int 1, .int 0, .int ve]))) (h1 : ¬ v < 0) (h2 : ¬ (1 : Int32) ≤ v) (nx : ¬ (x < -4 ∨ 4 < x)) (ny : ¬ (y < -4 ∨ 4 < y)) (nz : ¬ (z < -4 ∨ 4 < z)) (hm : zmet d 20 [.ref 2, .int v, .int x, .int y, .int z] w (some (.int 1)) w2) : zmet (d + 1) 86 [.ref 1, .int v, .int x, .int y, .int z] w (some (.int 1)) w2 := by
  refine ⟨_, rfl, Nat.le_of_ble_eq_true rfl, ?_⟩
  show zev (d + 1) 86 0 [some (.ref 1), some (.int v), some (.int x), some (.int y), some (.int z)] [] w _ _
  refine zt (pc' := 1) zdQ_86_0 zm_86 rfl rfl ?_
  refine zt_get (pc' := 4) zdQ_86_1 zm_86 rfl rfl hX (by decide) rfl ?_
  refine zt (pc' := 5) zdQ_86_4 zm_86 rfl rfl ?_
  refine zt_V (pc' := 8) zdQ_86_5 zm_86 rfl zq_6_34 rfl (Nat.le_of_ble_eq_true rfl) hF zqv_6_34_1 (by decide) rfl (c_hasJoint1 hF h1 h2) ?_
  refine zt_ifF (tgt := 33) (pc' := 11) zdQ_86_8 zm_86 rfl rfl (zneq (by decide)) ?_
  refine zt (pc' := 12) zdQ_86_11 zm_86 rfl rfl ?_
  refine zt_S (pc' := 15) zdQ_86_12 zm_86 rfl zq_6_38 (Nat.le_of_ble_eq_true rfl) (Nat.le_of_ble_eq_true rfl) rfl (zr_nfar nx) ?_
  refine zt_ifF (tgt := 33) (pc' := 18) zdQ_86_15 zm_86 rfl rfl (znne rfl) ?_
  refine zt (pc' := 19) zdQ_86_18 zm_86 rfl rfl ?_
  refine zt_S (pc' := 22) zdQ_86_19 zm_86 rfl zq_6_38 (Nat.le_of_ble_eq_true rfl) (Nat.le_of_ble_eq_true rfl) rfl (zr_nfar ny) ?_
  refine zt_ifF (tgt := 33) (pc' := 25) zdQ_86_22 zm_86 rfl rfl (znne rfl) ?_
  refine zt (pc' := 27) zdQ_86_25 zm_86 rfl rfl ?_
  refine zt_S (pc' := 30) zdQ_86_27 zm_86 rfl zq_6_38 (Nat.le_of_ble_eq_true rfl) (Nat.le_of_ble_eq_true rfl) rfl (zr_nfar nz) ?_
  refine zt_ifT (tgt := 36) (pc' := 33) zdQ_86_30 zm_86 rfl rfl (zeq rfl) ?_
  refine zt (pc' := 37) zdQ_86_36 zm_86 rfl rfl ?_
  refine zt_get (pc' := 40) zdQ_86_37 zm_86 rfl rfl hX (by decide) rfl ?_
  refine zt (pc' := 41) zdQ_86_40 zm_86 rfl rfl ?_
  refine zt (pc' := 42) zdQ_86_41 zm_86 rfl rfl ?_
  refine zt (pc' := 43) zdQ_86_42 zm_86 rfl rfl ?_
  refine zt (pc' := 45) zdQ_86_43 zm_86 rfl rfl ?_
  refine zt_V (pc' := 48) zdQ_86_45 zm_86 rfl zq_6_41 rfl (Nat.le_of_ble_eq_true rfl) hF zqv_6_41_1 (by decide) rfl (hm) ?_
  refine zt_ifF (tgt := 55) (pc' := 51) zdQ_86_48 zm_86 rfl rfl (zneq (by decide)) ?_
  refine zt (pc' := 52) zdQ_86_51 zm_86 rfl rfl ?_
  refine zt (pc' := 56) zdQ_86_52 zm_86 rfl rfl ?_
  exact zte zdQ_86_56 zm_86 rfl
theorem zr_k0 {d : Nat} {w : zW} {v x y z : Int32} {ms : List Value} {pl : Value} (hM : w.1 9 = some (.inr (5, .int 1 :: pl :: .int 0 :: ms))) (h : v < 0 ∨ (1 : Int32) - 1 < v) : zmet (d + 2) 141 [.ref 9, .int v, .int x, .int y, .int z] w (some (.int (-2))) w := by
  refine ⟨_, rfl, Nat.le_of_ble_eq_true rfl, ?_⟩
  show zev (d + 2) 141 0 [some (.ref 9), some (.int v), some (.int x), some (.int y), some (.int z), none, none] [] w _ _
  refine zt (pc' := 1) zdQ_141_0 zm_141 rfl rfl ?_
  refine zt (pc' := 2) zdQ_141_1 zm_141 rfl rfl ?_
  refine zt_V (pc' := 5) zdQ_141_2 zm_141 rfl zq_7_77 rfl (Nat.le_of_ble_eq_true rfl) hM zqv_7_77_5 (by decide) rfl (c_isJoint0 hM h) ?_
  refine zt_ifT (tgt := 30) (pc' := 8) zdQ_141_5 zm_141 rfl rfl (zeq rfl) ?_
  refine zt (pc' := 32) zdQ_141_30 zm_141 rfl rfl ?_
  exact zte zdQ_141_32 zm_141 rfl
theorem zr_k1 {d : Nat} {w : zW} {v x y z : Int32} {ms : List Value} {pl : Value} (hM : w.1 9 = some (.inr (5, .int 1 :: pl :: .int 0 :: ms))) (h1 : ¬ v < 0) (h2 : ¬ (1 : Int32) - 1 < v) (h : x < -4 ∨ 4 < x) : zmet (d + 2) 141 [.ref 9, .int v, .int x, .int y, .int z] w (some (.int (-2))) w := by
  refine ⟨_, rfl, Nat.le_of_ble_eq_true rfl, ?_⟩
  show zev (d + 2) 141 0 [some (.ref 9), some (.int v), some (.int x), some (.int y), some (.int z), none, none] [] w _ _
  refine zt (pc' := 1) zdQ_141_0 zm_141 rfl rfl ?_
  refine zt (pc' := 2) zdQ_141_1 zm_141 rfl rfl ?_
  refine zt_V (pc' := 5) zdQ_141_2 zm_141 rfl zq_7_77 rfl (Nat.le_of_ble_eq_true rfl) hM zqv_7_77_5 (by decide) rfl (c_isJoint1 hM h1 h2) ?_
  refine zt_ifF (tgt := 30) (pc' := 8) zdQ_141_5 zm_141 rfl rfl (zneq (by decide)) ?_
  refine zt (pc' := 9) zdQ_141_8 zm_141 rfl rfl ?_
  refine zt_S (pc' := 12) zdQ_141_9 zm_141 rfl zq_7_81 (Nat.le_of_ble_eq_true rfl) (Nat.le_of_ble_eq_true rfl) rfl (c_isWay0 h) ?_
  refine zt_ifT (tgt := 30) (pc' := 15) zdQ_141_12 zm_141 rfl rfl (zeq rfl) ?_
  refine zt (pc' := 32) zdQ_141_30 zm_141 rfl rfl ?_
  exact zte zdQ_141_32 zm_141 rfl
theorem zr_k2 {d : Nat} {w : zW} {v x y z : Int32} {ms : List Value} {pl : Value} (hM : w.1 9 = some (.inr (5, .int 1 :: pl :: .int 0 :: ms))) (h1 : ¬ v < 0) (h2 : ¬ (1 : Int32) - 1 < v) (nx : ¬ (x < -4 ∨ 4 < x)) (h : y < -4 ∨ 4 < y) : zmet (d + 2) 141 [.ref 9, .int v, .int x, .int y, .int z] w (some (.int (-2))) w := by
  refine ⟨_, rfl, Nat.le_of_ble_eq_true rfl, ?_⟩
  show zev (d + 2) 141 0 [some (.ref 9), some (.int v), some (.int x), some (.int y), some (.int z), none, none] [] w _ _
  refine zt (pc' := 1) zdQ_141_0 zm_141 rfl rfl ?_
  refine zt (pc' := 2) zdQ_141_1 zm_141 rfl rfl ?_
  refine zt_V (pc' := 5) zdQ_141_2 zm_141 rfl zq_7_77 rfl (Nat.le_of_ble_eq_true rfl) hM zqv_7_77_5 (by decide) rfl (c_isJoint1 hM h1 h2) ?_
  refine zt_ifF (tgt := 30) (pc' := 8) zdQ_141_5 zm_141 rfl rfl (zneq (by decide)) ?_
  refine zt (pc' := 9) zdQ_141_8 zm_141 rfl rfl ?_
  refine zt_S (pc' := 12) zdQ_141_9 zm_141 rfl zq_7_81 (Nat.le_of_ble_eq_true rfl) (Nat.le_of_ble_eq_true rfl) rfl (zr_way nx) ?_
  refine zt_ifF (tgt := 30) (pc' := 15) zdQ_141_12 zm_141 rfl rfl (zneq (by decide)) ?_
  refine zt (pc' := 16) zdQ_141_15 zm_141 rfl rfl ?_
  refine zt_S (pc' := 19) zdQ_141_16 zm_141 rfl zq_7_81 (Nat.le_of_ble_eq_true rfl) (Nat.le_of_ble_eq_true rfl) rfl (c_isWay0 h) ?_
  refine zt_ifT (tgt := 30) (pc' := 22) zdQ_141_19 zm_141 rfl rfl (zeq rfl) ?_
  refine zt (pc' := 32) zdQ_141_30 zm_141 rfl rfl ?_
  exact zte zdQ_141_32 zm_141 rfl
theorem zr_k3 {d : Nat} {w : zW} {v x y z : Int32} {ms : List Value} {pl : Value} (hM : w.1 9 = some (.inr (5, .int 1 :: pl :: .int 0 :: ms))) (h1 : ¬ v < 0) (h2 : ¬ (1 : Int32) - 1 < v) (nx : ¬ (x < -4 ∨ 4 < x)) (ny : ¬ (y < -4 ∨ 4 < y)) (h : z < -4 ∨ 4 < z) : zmet (d + 2) 141 [.ref 9, .int v, .int x, .int y, .int z] w (some (.int (-2))) w := by
  refine ⟨_, rfl, Nat.le_of_ble_eq_true rfl, ?_⟩
  show zev (d + 2) 141 0 [some (.ref 9), some (.int v), some (.int x), some (.int y), some (.int z), none, none] [] w _ _
  refine zt (pc' := 1) zdQ_141_0 zm_141 rfl rfl ?_
  refine zt (pc' := 2) zdQ_141_1 zm_141 rfl rfl ?_
  refine zt_V (pc' := 5) zdQ_141_2 zm_141 rfl zq_7_77 rfl (Nat.le_of_ble_eq_true rfl) hM zqv_7_77_5 (by decide) rfl (c_isJoint1 hM h1 h2) ?_
  refine zt_ifF (tgt := 30) (pc' := 8) zdQ_141_5 zm_141 rfl rfl (zneq (by decide)) ?_
  refine zt (pc' := 9) zdQ_141_8 zm_141 rfl rfl ?_
  refine zt_S (pc' := 12) zdQ_141_9 zm_141 rfl zq_7_81 (Nat.le_of_ble_eq_true rfl) (Nat.le_of_ble_eq_true rfl) rfl (zr_way nx) ?_
  refine zt_ifF (tgt := 30) (pc' := 15) zdQ_141_12 zm_141 rfl rfl (zneq (by decide)) ?_
  refine zt (pc' := 16) zdQ_141_15 zm_141 rfl rfl ?_
  refine zt_S (pc' := 19) zdQ_141_16 zm_141 rfl zq_7_81 (Nat.le_of_ble_eq_true rfl) (Nat.le_of_ble_eq_true rfl) rfl (zr_way ny) ?_
  refine zt_ifF (tgt := 30) (pc' := 22) zdQ_141_19 zm_141 rfl rfl (zneq (by decide)) ?_
  refine zt (pc' := 24) zdQ_141_22 zm_141 rfl rfl ?_
  refine zt_S (pc' := 27) zdQ_141_24 zm_141 rfl zq_7_81 (Nat.le_of_ble_eq_true rfl) (Nat.le_of_ble_eq_true rfl) rfl (c_isWay0 h) ?_
  refine zt_ifF (tgt := 33) (pc' := 30) zdQ_141_27 zm_141 rfl rfl (znne rfl) ?_
  refine zt (pc' := 32) zdQ_141_30 zm_141 rfl rfl ?_
  exact zte zdQ_141_32 zm_141 rfl
abbrev zmvW (w : zW) (f : Nat → Int32) (x y z : Int32) : zW := zu (zu (zu (zu w 3 (.inl (0, 21, .inl (upd f 0 x)))) 3 (.inl (0, 21, .inl (upd (upd f 0 x) 1 y)))) 3 (.inl (0, 21, .inl (upd (upd (upd f 0 x) 1 y) 2 z)))) 2 (.inr (1, [.ref 3, .ref 4, .ref 5, .ref 6, .int 1, .int 0, .int 2]))
set_option maxHeartbeats 8000000 in
theorem zr_mvS {d : Nat} {w : zW} {x y z : Int32} {f : Nat → Int32} (F : w.1 2 = some (.inr (1, [.ref 3, .ref 4, .ref 5, .ref 6, .int 1, .int 0, .int 1]))) (P : w.1 3 = some (.inl (0, 21, .inl f))) : zev d 20 45 [some (.ref 2), some (.int 0), some (.int x), some (.int y), some (.int z), some (.int (0 * 3))] [] w (some (.int 1)) (zmvW w f x y z) := by
  refine zt (pc' := 46) zdQ_20_45 zm_20 rfl rfl ?_
  refine zt_get (pc' := 49) zdQ_20_46 zm_20 rfl rfl F (by decide) rfl ?_
  refine zt (pc' := 51) zdQ_20_49 zm_20 rfl rfl ?_
  refine zt (pc' := 52) zdQ_20_51 zm_20 rfl rfl ?_
  refine zt_iau (pc' := 53) zdQ_20_52 zm_20 rfl P (by decide) ?_
  refine zt (pc' := 54) zdQ_20_53 zm_20 rfl rfl ?_
  refine zt_get (pc' := 57) zdQ_20_54 zm_20 rfl rfl ((zu_ne (by decide)).trans F) (by decide) rfl ?_
  refine zt (pc' := 59) zdQ_20_57 zm_20 rfl rfl ?_
  refine zt (pc' := 60) zdQ_20_59 zm_20 rfl rfl ?_
  refine zt (pc' := 61) zdQ_20_60 zm_20 rfl rfl ?_
  refine zt (pc' := 62) zdQ_20_61 zm_20 rfl rfl ?_
  refine zt_iau (pc' := 63) zdQ_20_62 zm_20 rfl zu_self (by decide) ?_
  refine zt (pc' := 64) zdQ_20_63 zm_20 rfl rfl ?_
  refine zt_get (pc' := 67) zdQ_20_64 zm_20 rfl rfl ((zu_ne (by decide)).trans ((zu_ne (by decide)).trans F)) (by decide) rfl ?_
  refine zt (pc' := 69) zdQ_20_67 zm_20 rfl rfl ?_
  refine zt (pc' := 70) zdQ_20_69 zm_20 rfl rfl ?_
  refine zt (pc' := 71) zdQ_20_70 zm_20 rfl rfl ?_
  refine zt (pc' := 73) zdQ_20_71 zm_20 rfl rfl ?_
  refine zt_iau (pc' := 74) zdQ_20_73 zm_20 rfl zu_self (by decide) ?_
  refine zt (pc' := 75) zdQ_20_74 zm_20 rfl rfl ?_
  refine zt (pc' := 76) zdQ_20_75 zm_20 rfl rfl ?_
  refine zt_get (pc' := 79) zdQ_20_76 zm_20 rfl rfl ((zu_ne (by decide)).trans ((zu_ne (by decide)).trans ((zu_ne (by decide)).trans F))) (by decide) rfl ?_
  refine zt (pc' := 80) zdQ_20_79 zm_20 rfl rfl ?_
  refine zt (pc' := 81) zdQ_20_80 zm_20 rfl rfl ?_
  refine zt_puu (pc' := 84) zdQ_20_81 zm_20 rfl rfl ((zu_ne (by decide)).trans ((zu_ne (by decide)).trans ((zu_ne (by decide)).trans F))) (by decide) (by decide) rfl rfl ?_
  refine zt (pc' := 85) zdQ_20_84 zm_20 rfl rfl ?_
  exact zte zdQ_20_85 zm_20 rfl
theorem zr_mv1 {d : Nat} {w : zW} {x y z : Int32} {f : Nat → Int32} (F : w.1 2 = some (.inr (1, [.ref 3, .ref 4, .ref 5, .ref 6, .int 1, .int 0, .int 1]))) (P : w.1 3 = some (.inl (0, 21, .inl f))) (f0 : f 0 = 0) (f1 : f 1 = 0) (f2 : f 2 = 0) (hx : ¬ x = 0) : zmet (d) 20 [.ref 2, .int 0, .int x, .int y, .int z] w (some (.int 1)) (zmvW w f x y z) := by
  refine ⟨_, rfl, Nat.le_of_ble_eq_true rfl, ?_⟩
  show zev (d) 20 0 [some (.ref 2), some (.int 0), some (.int x), some (.int y), some (.int z), none] [] w _ _
  refine zt (pc' := 1) zdQ_20_0 zm_20 rfl rfl ?_
  refine zt (pc' := 2) zdQ_20_1 zm_20 rfl rfl ?_
  refine zt (pc' := 3) zdQ_20_2 zm_20 rfl rfl ?_
  refine zt (pc' := 5) zdQ_20_3 zm_20 rfl rfl ?_
  show zev _ _ _ [_, _, _, _, _, _] _ _ _ _
  refine zt (pc' := 6) zdQ_20_5 zm_20 rfl rfl ?_
  refine zt_get (pc' := 9) zdQ_20_6 zm_20 rfl rfl F (by decide) rfl ?_
  refine zt (pc' := 11) zdQ_20_9 zm_20 rfl rfl ?_
  refine zt_ial (pc' := 12) zdQ_20_11 zm_20 rfl P (by decide) ?_
  refine zt (pc' := 13) zdQ_20_12 zm_20 rfl rfl ?_
  refine zt_icT (tgt := 45) (pc' := 16) zdQ_20_13 zm_20 rfl rfl (zne (fun e => hx (e.symm.trans f0))) ?_
  exact zr_mvS F P
theorem zr_mv2 {d : Nat} {w : zW} {x y z : Int32} {f : Nat → Int32} (F : w.1 2 = some (.inr (1, [.ref 3, .ref 4, .ref 5, .ref 6, .int 1, .int 0, .int 1]))) (P : w.1 3 = some (.inl (0, 21, .inl f))) (f0 : f 0 = 0) (f1 : f 1 = 0) (f2 : f 2 = 0) (hx : x = 0) (hy : ¬ y = 0) : zmet (d) 20 [.ref 2, .int 0, .int x, .int y, .int z] w (some (.int 1)) (zmvW w f x y z) := by
  refine ⟨_, rfl, Nat.le_of_ble_eq_true rfl, ?_⟩
  show zev (d) 20 0 [some (.ref 2), some (.int 0), some (.int x), some (.int y), some (.int z), none] [] w _ _
  refine zt (pc' := 1) zdQ_20_0 zm_20 rfl rfl ?_
  refine zt (pc' := 2) zdQ_20_1 zm_20 rfl rfl ?_
  refine zt (pc' := 3) zdQ_20_2 zm_20 rfl rfl ?_
  refine zt (pc' := 5) zdQ_20_3 zm_20 rfl rfl ?_
  show zev _ _ _ [_, _, _, _, _, _] _ _ _ _
  refine zt (pc' := 6) zdQ_20_5 zm_20 rfl rfl ?_
  refine zt_get (pc' := 9) zdQ_20_6 zm_20 rfl rfl F (by decide) rfl ?_
  refine zt (pc' := 11) zdQ_20_9 zm_20 rfl rfl ?_
  refine zt_ial (pc' := 12) zdQ_20_11 zm_20 rfl P (by decide) ?_
  refine zt (pc' := 13) zdQ_20_12 zm_20 rfl rfl ?_
  refine zt_icF (tgt := 45) (pc' := 16) zdQ_20_13 zm_20 rfl rfl (znne (f0.trans hx.symm)) ?_
  refine zt (pc' := 17) zdQ_20_16 zm_20 rfl rfl ?_
  refine zt_get (pc' := 20) zdQ_20_17 zm_20 rfl rfl F (by decide) rfl ?_
  refine zt (pc' := 22) zdQ_20_20 zm_20 rfl rfl ?_
  refine zt (pc' := 23) zdQ_20_22 zm_20 rfl rfl ?_
  refine zt (pc' := 24) zdQ_20_23 zm_20 rfl rfl ?_
  refine zt_ial (pc' := 25) zdQ_20_24 zm_20 rfl P (by decide) ?_
  refine zt (pc' := 26) zdQ_20_25 zm_20 rfl rfl ?_
  refine zt_icT (tgt := 45) (pc' := 29) zdQ_20_26 zm_20 rfl rfl (zne (fun e => hy (e.symm.trans f1))) ?_
  exact zr_mvS F P
set_option maxHeartbeats 8000000 in
theorem zr_mv3 {d : Nat} {w : zW} {x y z : Int32} {f : Nat → Int32} (F : w.1 2 = some (.inr (1, [.ref 3, .ref 4, .ref 5, .ref 6, .int 1, .int 0, .int 1]))) (P : w.1 3 = some (.inl (0, 21, .inl f))) (f0 : f 0 = 0) (f1 : f 1 = 0) (f2 : f 2 = 0) (hx : x = 0) (hy : y = 0) (hz : ¬ z = 0) : zmet (d) 20 [.ref 2, .int 0, .int x, .int y, .int z] w (some (.int 1)) (zmvW w f x y z) := by
  refine ⟨_, rfl, Nat.le_of_ble_eq_true rfl, ?_⟩
  show zev (d) 20 0 [some (.ref 2), some (.int 0), some (.int x), some (.int y), some (.int z), none] [] w _ _
  refine zt (pc' := 1) zdQ_20_0 zm_20 rfl rfl ?_
  refine zt (pc' := 2) zdQ_20_1 zm_20 rfl rfl ?_
  refine zt (pc' := 3) zdQ_20_2 zm_20 rfl rfl ?_
  refine zt (pc' := 5) zdQ_20_3 zm_20 rfl rfl ?_
  show zev _ _ _ [_, _, _, _, _, _] _ _ _ _
  refine zt (pc' := 6) zdQ_20_5 zm_20 rfl rfl ?_
  refine zt_get (pc' := 9) zdQ_20_6 zm_20 rfl rfl F (by decide) rfl ?_
  refine zt (pc' := 11) zdQ_20_9 zm_20 rfl rfl ?_
  refine zt_ial (pc' := 12) zdQ_20_11 zm_20 rfl P (by decide) ?_
  refine zt (pc' := 13) zdQ_20_12 zm_20 rfl rfl ?_
  refine zt_icF (tgt := 45) (pc' := 16) zdQ_20_13 zm_20 rfl rfl (znne (f0.trans hx.symm)) ?_
  refine zt (pc' := 17) zdQ_20_16 zm_20 rfl rfl ?_
  refine zt_get (pc' := 20) zdQ_20_17 zm_20 rfl rfl F (by decide) rfl ?_
  refine zt (pc' := 22) zdQ_20_20 zm_20 rfl rfl ?_
  refine zt (pc' := 23) zdQ_20_22 zm_20 rfl rfl ?_
  refine zt (pc' := 24) zdQ_20_23 zm_20 rfl rfl ?_
  refine zt_ial (pc' := 25) zdQ_20_24 zm_20 rfl P (by decide) ?_
  refine zt (pc' := 26) zdQ_20_25 zm_20 rfl rfl ?_
  refine zt_icF (tgt := 45) (pc' := 29) zdQ_20_26 zm_20 rfl rfl (znne (f1.trans hy.symm)) ?_
  refine zt (pc' := 30) zdQ_20_29 zm_20 rfl rfl ?_
  refine zt_get (pc' := 33) zdQ_20_30 zm_20 rfl rfl F (by decide) rfl ?_
  refine zt (pc' := 35) zdQ_20_33 zm_20 rfl rfl ?_
  refine zt (pc' := 36) zdQ_20_35 zm_20 rfl rfl ?_
  refine zt (pc' := 37) zdQ_20_36 zm_20 rfl rfl ?_
  refine zt_ial (pc' := 38) zdQ_20_37 zm_20 rfl P (by decide) ?_
  refine zt (pc' := 40) zdQ_20_38 zm_20 rfl rfl ?_
  refine zt_icT (tgt := 45) (pc' := 43) zdQ_20_40 zm_20 rfl rfl (zne (fun e => hz (e.symm.trans f2))) ?_
  exact zr_mvS F P
set_option maxHeartbeats 8000000 in
theorem zr_mv0 {d : Nat} {w : zW} {x y z : Int32} {f : Nat → Int32} (F : w.1 2 = some (.inr (1, [.ref 3, .ref 4, .ref 5, .ref 6, .int 1, .int 0, .int 1]))) (P : w.1 3 = some (.inl (0, 21, .inl f))) (f0 : f 0 = 0) (f1 : f 1 = 0) (f2 : f 2 = 0) (hx : x = 0) (hy : y = 0) (hz : z = 0) : zmet (d) 20 [.ref 2, .int 0, .int x, .int y, .int z] w (some (.int 0)) w := by
  refine ⟨_, rfl, Nat.le_of_ble_eq_true rfl, ?_⟩
  show zev (d) 20 0 [some (.ref 2), some (.int 0), some (.int x), some (.int y), some (.int z), none] [] w _ _
  refine zt (pc' := 1) zdQ_20_0 zm_20 rfl rfl ?_
  refine zt (pc' := 2) zdQ_20_1 zm_20 rfl rfl ?_
  refine zt (pc' := 3) zdQ_20_2 zm_20 rfl rfl ?_
  refine zt (pc' := 5) zdQ_20_3 zm_20 rfl rfl ?_
  show zev _ _ _ [_, _, _, _, _, _] _ _ _ _
  refine zt (pc' := 6) zdQ_20_5 zm_20 rfl rfl ?_
  refine zt_get (pc' := 9) zdQ_20_6 zm_20 rfl rfl F (by decide) rfl ?_
  refine zt (pc' := 11) zdQ_20_9 zm_20 rfl rfl ?_
  refine zt_ial (pc' := 12) zdQ_20_11 zm_20 rfl P (by decide) ?_
  refine zt (pc' := 13) zdQ_20_12 zm_20 rfl rfl ?_
  refine zt_icF (tgt := 45) (pc' := 16) zdQ_20_13 zm_20 rfl rfl (znne (f0.trans hx.symm)) ?_
  refine zt (pc' := 17) zdQ_20_16 zm_20 rfl rfl ?_
  refine zt_get (pc' := 20) zdQ_20_17 zm_20 rfl rfl F (by decide) rfl ?_
  refine zt (pc' := 22) zdQ_20_20 zm_20 rfl rfl ?_
  refine zt (pc' := 23) zdQ_20_22 zm_20 rfl rfl ?_
  refine zt (pc' := 24) zdQ_20_23 zm_20 rfl rfl ?_
  refine zt_ial (pc' := 25) zdQ_20_24 zm_20 rfl P (by decide) ?_
  refine zt (pc' := 26) zdQ_20_25 zm_20 rfl rfl ?_
  refine zt_icF (tgt := 45) (pc' := 29) zdQ_20_26 zm_20 rfl rfl (znne (f1.trans hy.symm)) ?_
  refine zt (pc' := 30) zdQ_20_29 zm_20 rfl rfl ?_
  refine zt_get (pc' := 33) zdQ_20_30 zm_20 rfl rfl F (by decide) rfl ?_
  refine zt (pc' := 35) zdQ_20_33 zm_20 rfl rfl ?_
  refine zt (pc' := 36) zdQ_20_35 zm_20 rfl rfl ?_
  refine zt (pc' := 37) zdQ_20_36 zm_20 rfl rfl ?_
  refine zt_ial (pc' := 38) zdQ_20_37 zm_20 rfl P (by decide) ?_
  refine zt (pc' := 40) zdQ_20_38 zm_20 rfl rfl ?_
  refine zt_icF (tgt := 45) (pc' := 43) zdQ_20_40 zm_20 rfl rfl (znne (f2.trans hz.symm)) ?_
  refine zt (pc' := 44) zdQ_20_43 zm_20 rfl rfl ?_
  exact zte zdQ_20_44 zm_20 rfl
theorem zr_mv {d : Nat} {w : zW} {x y z : Int32} {f : Nat → Int32} (F : w.1 2 = some (.inr (1, [.ref 3, .ref 4, .ref 5, .ref 6, .int 1, .int 0, .int 1]))) (P : w.1 3 = some (.inl (0, 21, .inl f))) (f0 : f 0 = 0) (f1 : f 1 = 0) (f2 : f 2 = 0) (h : ¬ (x = 0 ∧ y = 0 ∧ z = 0)) : zmet d 20 [.ref 2, .int 0, .int x, .int y, .int z] w (some (.int 1)) (zmvW w f x y z) := by
  by_cases hx : x = 0
  · by_cases hy : y = 0
    · exact zr_mv3 F P f0 f1 f2 hx hy (fun e => h ⟨hx, hy, e⟩)
    · exact zr_mv2 F P f0 f1 f2 hx hy
  · exact zr_mv1 F P f0 f1 f2 hx
abbrev zchW (w : zW) (b : Nat → Int32) : zW := zu (zu (zu w 15 (.inl (2, 3, .inl (upd b 0 (vp_nar .boolean 0))))) 15 (.inl (2, 3, .inl (upd (upd b 0 (vp_nar .boolean 0)) 1 (vp_nar .boolean 0))))) 15 (.inl (2, 3, .inl (upd (upd (upd b 0 (vp_nar .boolean 0)) 1 (vp_nar .boolean 0)) 2 (vp_nar .boolean 0))))
theorem zr_cg108 {d : Nat} {w : zW} {b : Nat → Int32} (M : w.1 9 = some (.inr (5, [.int 1, .ref 10, .int 0, .ref 11, .ref 12, .ref 13, .ref 14, .ref 15, .ref 16, .int 0, .int 0, .ref 17, .ref 18, .long 0, .ref 19, .ref 20, .int 0, .ref 21, .int 0, .ref 22, .ref 23, .ref 24, .ref 25, .ref 26]))) (Q : w.1 15 = some (.inl (2, 3, .inl b))) : zmet (d) 108 [.ref 9] w (none) (zchW w b) := by
  refine ⟨_, rfl, Nat.le_of_ble_eq_true rfl, ?_⟩
  show zev (d) 108 0 [some (.ref 9)] [] w _ _
  refine zt (pc' := 1) zdQ_108_0 zm_108 rfl rfl ?_
  refine zt_get (pc' := 4) zdQ_108_1 zm_108 rfl rfl M (by decide) rfl ?_
  refine zt (pc' := 5) zdQ_108_4 zm_108 rfl rfl ?_
  refine zt (pc' := 6) zdQ_108_5 zm_108 rfl rfl ?_
  refine zt_bau (pc' := 7) zdQ_108_6 zm_108 rfl Q (by decide) ?_
  refine zt (pc' := 8) zdQ_108_7 zm_108 rfl rfl ?_
  refine zt_get (pc' := 11) zdQ_108_8 zm_108 rfl rfl ((zu_ne (by decide)).trans M) (by decide) rfl ?_
  refine zt (pc' := 12) zdQ_108_11 zm_108 rfl rfl ?_
  refine zt (pc' := 13) zdQ_108_12 zm_108 rfl rfl ?_
  refine zt_bau (pc' := 14) zdQ_108_13 zm_108 rfl zu_self (by decide) ?_
  refine zt (pc' := 15) zdQ_108_14 zm_108 rfl rfl ?_
  refine zt_get (pc' := 18) zdQ_108_15 zm_108 rfl rfl ((zu_ne (by decide)).trans ((zu_ne (by decide)).trans M)) (by decide) rfl ?_
  refine zt (pc' := 19) zdQ_108_18 zm_108 rfl rfl ?_
  refine zt (pc' := 20) zdQ_108_19 zm_108 rfl rfl ?_
  refine zt_bau (pc' := 21) zdQ_108_20 zm_108 rfl zu_self (by decide) ?_
  exact zte zdQ_108_21 zm_108 rfl
set_option maxHeartbeats 8000000 in
theorem zr_jS0 {d : Nat} {w : zW} {x y z : Int32} {f b : Nat → Int32} (M : w.1 9 = some (.inr (5, [.int 1, .ref 10, .int 0, .ref 11, .ref 12, .ref 13, .ref 14, .ref 15, .ref 16, .int 0, .int 0, .ref 17, .ref 18, .long 0, .ref 19, .ref 20, .int 0, .ref 21, .int 0, .ref 22, .ref 23, .ref 24, .ref 25, .ref 26]))) (P : w.1 10 = some (.inl (0, 21, .inl f))) (Q : w.1 15 = some (.inl (2, 3, .inl b))) : zev (d + 1) 141 83 [some (.ref 9), some (.int 0), some (.int x), some (.int y), some (.int z), some (.int (3 * 0)), some (.int 0)] [] w (some (.int 0)) (zchW (zu (zu (zu w 10 (.inl (0, 21, .inl (upd f 0 x)))) 10 (.inl (0, 21, .inl (upd (upd f 0 x) 1 y)))) 10 (.inl (0, 21, .inl (upd (upd (upd f 0 x) 1 y) 2 z)))) b) := by
  refine zt (pc' := 84) zdQ_141_83 zm_141 rfl rfl ?_
  refine zt_get (pc' := 87) zdQ_141_84 zm_141 rfl rfl M (by decide) rfl ?_
  refine zt (pc' := 89) zdQ_141_87 zm_141 rfl rfl ?_
  refine zt (pc' := 90) zdQ_141_89 zm_141 rfl rfl ?_
  refine zt_iau (pc' := 91) zdQ_141_90 zm_141 rfl P (by decide) ?_
  refine zt (pc' := 92) zdQ_141_91 zm_141 rfl rfl ?_
  refine zt_get (pc' := 95) zdQ_141_92 zm_141 rfl rfl ((zu_ne (by decide)).trans M) (by decide) rfl ?_
  refine zt (pc' := 97) zdQ_141_95 zm_141 rfl rfl ?_
  refine zt (pc' := 98) zdQ_141_97 zm_141 rfl rfl ?_
  refine zt (pc' := 99) zdQ_141_98 zm_141 rfl rfl ?_
  refine zt (pc' := 100) zdQ_141_99 zm_141 rfl rfl ?_
  refine zt_iau (pc' := 101) zdQ_141_100 zm_141 rfl zu_self (by decide) ?_
  refine zt (pc' := 102) zdQ_141_101 zm_141 rfl rfl ?_
  refine zt_get (pc' := 105) zdQ_141_102 zm_141 rfl rfl ((zu_ne (by decide)).trans ((zu_ne (by decide)).trans M)) (by decide) rfl ?_
  refine zt (pc' := 107) zdQ_141_105 zm_141 rfl rfl ?_
  refine zt (pc' := 108) zdQ_141_107 zm_141 rfl rfl ?_
  refine zt (pc' := 109) zdQ_141_108 zm_141 rfl rfl ?_
  refine zt (pc' := 111) zdQ_141_109 zm_141 rfl rfl ?_
  refine zt_iau (pc' := 112) zdQ_141_111 zm_141 rfl zu_self (by decide) ?_
  refine zt (pc' := 113) zdQ_141_112 zm_141 rfl rfl ?_
  refine zt_V (pc' := 116) zdQ_141_113 zm_141 rfl zq_7_67 rfl (Nat.le_of_ble_eq_true rfl) ((zu_ne (by decide)).trans ((zu_ne (by decide)).trans ((zu_ne (by decide)).trans M))) zqv_7_67_5 (by decide) rfl (zr_cg108 ((zu_ne (by decide)).trans ((zu_ne (by decide)).trans ((zu_ne (by decide)).trans M))) ((zu_ne (by decide)).trans ((zu_ne (by decide)).trans ((zu_ne (by decide)).trans Q)))) ?_
  refine zt (pc' := 118) zdQ_141_116 zm_141 rfl rfl ?_
  refine zt_ifT (tgt := 125) (pc' := 121) zdQ_141_118 zm_141 rfl rfl (zeq rfl) ?_
  refine zt (pc' := 126) zdQ_141_125 zm_141 rfl rfl ?_
  exact zte zdQ_141_126 zm_141 rfl
set_option maxHeartbeats 8000000 in
theorem zr_jS1 {d : Nat} {w : zW} {x y z : Int32} {f b : Nat → Int32} (M : w.1 9 = some (.inr (5, [.int 1, .ref 10, .int 0, .ref 11, .ref 12, .ref 13, .ref 14, .ref 15, .ref 16, .int 0, .int 0, .ref 17, .ref 18, .long 0, .ref 19, .ref 20, .int 0, .ref 21, .int 0, .ref 22, .ref 23, .ref 24, .ref 25, .ref 26]))) (P : w.1 10 = some (.inl (0, 21, .inl f))) (Q : w.1 15 = some (.inl (2, 3, .inl b))) : zev (d + 1) 141 83 [some (.ref 9), some (.int 0), some (.int x), some (.int y), some (.int z), some (.int (3 * 0)), some (.int 1)] [] w (some (.int 1)) (zchW (zu (zu (zu w 10 (.inl (0, 21, .inl (upd f 0 x)))) 10 (.inl (0, 21, .inl (upd (upd f 0 x) 1 y)))) 10 (.inl (0, 21, .inl (upd (upd (upd f 0 x) 1 y) 2 z)))) b) := by
  refine zt (pc' := 84) zdQ_141_83 zm_141 rfl rfl ?_
  refine zt_get (pc' := 87) zdQ_141_84 zm_141 rfl rfl M (by decide) rfl ?_
  refine zt (pc' := 89) zdQ_141_87 zm_141 rfl rfl ?_
  refine zt (pc' := 90) zdQ_141_89 zm_141 rfl rfl ?_
  refine zt_iau (pc' := 91) zdQ_141_90 zm_141 rfl P (by decide) ?_
  refine zt (pc' := 92) zdQ_141_91 zm_141 rfl rfl ?_
  refine zt_get (pc' := 95) zdQ_141_92 zm_141 rfl rfl ((zu_ne (by decide)).trans M) (by decide) rfl ?_
  refine zt (pc' := 97) zdQ_141_95 zm_141 rfl rfl ?_
  refine zt (pc' := 98) zdQ_141_97 zm_141 rfl rfl ?_
  refine zt (pc' := 99) zdQ_141_98 zm_141 rfl rfl ?_
  refine zt (pc' := 100) zdQ_141_99 zm_141 rfl rfl ?_
  refine zt_iau (pc' := 101) zdQ_141_100 zm_141 rfl zu_self (by decide) ?_
  refine zt (pc' := 102) zdQ_141_101 zm_141 rfl rfl ?_
  refine zt_get (pc' := 105) zdQ_141_102 zm_141 rfl rfl ((zu_ne (by decide)).trans ((zu_ne (by decide)).trans M)) (by decide) rfl ?_
  refine zt (pc' := 107) zdQ_141_105 zm_141 rfl rfl ?_
  refine zt (pc' := 108) zdQ_141_107 zm_141 rfl rfl ?_
  refine zt (pc' := 109) zdQ_141_108 zm_141 rfl rfl ?_
  refine zt (pc' := 111) zdQ_141_109 zm_141 rfl rfl ?_
  refine zt_iau (pc' := 112) zdQ_141_111 zm_141 rfl zu_self (by decide) ?_
  refine zt (pc' := 113) zdQ_141_112 zm_141 rfl rfl ?_
  refine zt_V (pc' := 116) zdQ_141_113 zm_141 rfl zq_7_67 rfl (Nat.le_of_ble_eq_true rfl) ((zu_ne (by decide)).trans ((zu_ne (by decide)).trans ((zu_ne (by decide)).trans M))) zqv_7_67_5 (by decide) rfl (zr_cg108 ((zu_ne (by decide)).trans ((zu_ne (by decide)).trans ((zu_ne (by decide)).trans M))) ((zu_ne (by decide)).trans ((zu_ne (by decide)).trans ((zu_ne (by decide)).trans Q)))) ?_
  refine zt (pc' := 118) zdQ_141_116 zm_141 rfl rfl ?_
  refine zt_ifF (tgt := 125) (pc' := 121) zdQ_141_118 zm_141 rfl rfl (zneq (by decide)) ?_
  refine zt (pc' := 122) zdQ_141_121 zm_141 rfl rfl ?_
  refine zt (pc' := 126) zdQ_141_122 zm_141 rfl rfl ?_
  exact zte zdQ_141_126 zm_141 rfl
set_option maxHeartbeats 8000000 in
theorem zr_rj1 {d : Nat} {w : zW} {x y z : Int32} {f b : Nat → Int32} (M : w.1 9 = some (.inr (5, [.int 1, .ref 10, .int 0, .ref 11, .ref 12, .ref 13, .ref 14, .ref 15, .ref 16, .int 0, .int 0, .ref 17, .ref 18, .long 0, .ref 19, .ref 20, .int 0, .ref 21, .int 0, .ref 22, .ref 23, .ref 24, .ref 25, .ref 26]))) (P : w.1 10 = some (.inl (0, 21, .inl f))) (Q : w.1 15 = some (.inl (2, 3, .inl b))) (f0 : f 0 = 0) (f1 : f 1 = 0) (f2 : f 2 = 0) (nx : ¬ (x < -4 ∨ 4 < x)) (ny : ¬ (y < -4 ∨ 4 < y)) (nz : ¬ (z < -4 ∨ 4 < z)) (hx : ¬ x = 0) : zmet (d + 2) 141 [.ref 9, .int 0, .int x, .int y, .int z] w (some (.int 1)) (zchW (zu (zu (zu w 10 (.inl (0, 21, .inl (upd f 0 x)))) 10 (.inl (0, 21, .inl (upd (upd f 0 x) 1 y)))) 10 (.inl (0, 21, .inl (upd (upd (upd f 0 x) 1 y) 2 z)))) b) := by
  refine ⟨_, rfl, Nat.le_of_ble_eq_true rfl, ?_⟩
  show zev (d + 2) 141 0 [some (.ref 9), some (.int 0), some (.int x), some (.int y), some (.int z), none, none] [] w _ _
  refine zt (pc' := 1) zdQ_141_0 zm_141 rfl rfl ?_
  refine zt (pc' := 2) zdQ_141_1 zm_141 rfl rfl ?_
  refine zt_V (pc' := 5) zdQ_141_2 zm_141 rfl zq_7_77 rfl (Nat.le_of_ble_eq_true rfl) M zqv_7_77_5 (by decide) rfl (c_isJoint1 M (by decide) (by decide)) ?_
  refine zt_ifF (tgt := 30) (pc' := 8) zdQ_141_5 zm_141 rfl rfl (zneq (by decide)) ?_
  refine zt (pc' := 9) zdQ_141_8 zm_141 rfl rfl ?_
  refine zt_S (pc' := 12) zdQ_141_9 zm_141 rfl zq_7_81 (Nat.le_of_ble_eq_true rfl) (Nat.le_of_ble_eq_true rfl) rfl (zr_way nx) ?_
  refine zt_ifF (tgt := 30) (pc' := 15) zdQ_141_12 zm_141 rfl rfl (zneq (by decide)) ?_
  refine zt (pc' := 16) zdQ_141_15 zm_141 rfl rfl ?_
  refine zt_S (pc' := 19) zdQ_141_16 zm_141 rfl zq_7_81 (Nat.le_of_ble_eq_true rfl) (Nat.le_of_ble_eq_true rfl) rfl (zr_way ny) ?_
  refine zt_ifF (tgt := 30) (pc' := 22) zdQ_141_19 zm_141 rfl rfl (zneq (by decide)) ?_
  refine zt (pc' := 24) zdQ_141_22 zm_141 rfl rfl ?_
  refine zt_S (pc' := 27) zdQ_141_24 zm_141 rfl zq_7_81 (Nat.le_of_ble_eq_true rfl) (Nat.le_of_ble_eq_true rfl) rfl (zr_way nz) ?_
  refine zt_ifT (tgt := 33) (pc' := 30) zdQ_141_27 zm_141 rfl rfl (zne (by decide)) ?_
  refine zt (pc' := 34) zdQ_141_33 zm_141 rfl rfl ?_
  refine zt (pc' := 35) zdQ_141_34 zm_141 rfl rfl ?_
  refine zt (pc' := 36) zdQ_141_35 zm_141 rfl rfl ?_
  refine zt (pc' := 38) zdQ_141_36 zm_141 rfl rfl ?_
  show zev _ _ _ [_, _, _, _, _, _, _] _ _ _ _
  refine zt (pc' := 39) zdQ_141_38 zm_141 rfl rfl ?_
  refine zt_get (pc' := 42) zdQ_141_39 zm_141 rfl rfl M (by decide) rfl ?_
  refine zt (pc' := 44) zdQ_141_42 zm_141 rfl rfl ?_
  refine zt_ial (pc' := 45) zdQ_141_44 zm_141 rfl P (by decide) ?_
  refine zt (pc' := 46) zdQ_141_45 zm_141 rfl rfl ?_
  refine zt_icT (tgt := 76) (pc' := 49) zdQ_141_46 zm_141 rfl rfl (zne (fun e => hx (e.symm.trans f0))) ?_
  refine zt (pc' := 77) zdQ_141_76 zm_141 rfl rfl ?_
  refine zt (pc' := 81) zdQ_141_77 zm_141 rfl rfl ?_
  refine zt (pc' := 83) zdQ_141_81 zm_141 rfl rfl ?_
  show zev _ _ _ [_, _, _, _, _, _, _] _ _ _ _
  exact zr_jS1 M P Q
set_option maxHeartbeats 8000000 in
theorem zr_rj2 {d : Nat} {w : zW} {x y z : Int32} {f b : Nat → Int32} (M : w.1 9 = some (.inr (5, [.int 1, .ref 10, .int 0, .ref 11, .ref 12, .ref 13, .ref 14, .ref 15, .ref 16, .int 0, .int 0, .ref 17, .ref 18, .long 0, .ref 19, .ref 20, .int 0, .ref 21, .int 0, .ref 22, .ref 23, .ref 24, .ref 25, .ref 26]))) (P : w.1 10 = some (.inl (0, 21, .inl f))) (Q : w.1 15 = some (.inl (2, 3, .inl b))) (f0 : f 0 = 0) (f1 : f 1 = 0) (f2 : f 2 = 0) (nx : ¬ (x < -4 ∨ 4 < x)) (ny : ¬ (y < -4 ∨ 4 < y)) (nz : ¬ (z < -4 ∨ 4 < z)) (hx : x = 0) (hy : ¬ y = 0) : zmet (d + 2) 141 [.ref 9, .int 0, .int x, .int y, .int z] w (some (.int 1)) (zchW (zu (zu (zu w 10 (.inl (0, 21, .inl (upd f 0 x)))) 10 (.inl (0, 21, .inl (upd (upd f 0 x) 1 y)))) 10 (.inl (0, 21, .inl (upd (upd (upd f 0 x) 1 y) 2 z)))) b) := by
  refine ⟨_, rfl, Nat.le_of_ble_eq_true rfl, ?_⟩
  show zev (d + 2) 141 0 [some (.ref 9), some (.int 0), some (.int x), some (.int y), some (.int z), none, none] [] w _ _
  refine zt (pc' := 1) zdQ_141_0 zm_141 rfl rfl ?_
  refine zt (pc' := 2) zdQ_141_1 zm_141 rfl rfl ?_
  refine zt_V (pc' := 5) zdQ_141_2 zm_141 rfl zq_7_77 rfl (Nat.le_of_ble_eq_true rfl) M zqv_7_77_5 (by decide) rfl (c_isJoint1 M (by decide) (by decide)) ?_
  refine zt_ifF (tgt := 30) (pc' := 8) zdQ_141_5 zm_141 rfl rfl (zneq (by decide)) ?_
  refine zt (pc' := 9) zdQ_141_8 zm_141 rfl rfl ?_
  refine zt_S (pc' := 12) zdQ_141_9 zm_141 rfl zq_7_81 (Nat.le_of_ble_eq_true rfl) (Nat.le_of_ble_eq_true rfl) rfl (zr_way nx) ?_
  refine zt_ifF (tgt := 30) (pc' := 15) zdQ_141_12 zm_141 rfl rfl (zneq (by decide)) ?_
  refine zt (pc' := 16) zdQ_141_15 zm_141 rfl rfl ?_
  refine zt_S (pc' := 19) zdQ_141_16 zm_141 rfl zq_7_81 (Nat.le_of_ble_eq_true rfl) (Nat.le_of_ble_eq_true rfl) rfl (zr_way ny) ?_
  refine zt_ifF (tgt := 30) (pc' := 22) zdQ_141_19 zm_141 rfl rfl (zneq (by decide)) ?_
  refine zt (pc' := 24) zdQ_141_22 zm_141 rfl rfl ?_
  refine zt_S (pc' := 27) zdQ_141_24 zm_141 rfl zq_7_81 (Nat.le_of_ble_eq_true rfl) (Nat.le_of_ble_eq_true rfl) rfl (zr_way nz) ?_
  refine zt_ifT (tgt := 33) (pc' := 30) zdQ_141_27 zm_141 rfl rfl (zne (by decide)) ?_
  refine zt (pc' := 34) zdQ_141_33 zm_141 rfl rfl ?_
  refine zt (pc' := 35) zdQ_141_34 zm_141 rfl rfl ?_
  refine zt (pc' := 36) zdQ_141_35 zm_141 rfl rfl ?_
  refine zt (pc' := 38) zdQ_141_36 zm_141 rfl rfl ?_
  show zev _ _ _ [_, _, _, _, _, _, _] _ _ _ _
  refine zt (pc' := 39) zdQ_141_38 zm_141 rfl rfl ?_
  refine zt_get (pc' := 42) zdQ_141_39 zm_141 rfl rfl M (by decide) rfl ?_
  refine zt (pc' := 44) zdQ_141_42 zm_141 rfl rfl ?_
  refine zt_ial (pc' := 45) zdQ_141_44 zm_141 rfl P (by decide) ?_
  refine zt (pc' := 46) zdQ_141_45 zm_141 rfl rfl ?_
  refine zt_icF (tgt := 76) (pc' := 49) zdQ_141_46 zm_141 rfl rfl (znne (f0.trans hx.symm)) ?_
  refine zt (pc' := 50) zdQ_141_49 zm_141 rfl rfl ?_
  refine zt_get (pc' := 53) zdQ_141_50 zm_141 rfl rfl M (by decide) rfl ?_
  refine zt (pc' := 55) zdQ_141_53 zm_141 rfl rfl ?_
  refine zt (pc' := 56) zdQ_141_55 zm_141 rfl rfl ?_
  refine zt (pc' := 57) zdQ_141_56 zm_141 rfl rfl ?_
  refine zt_ial (pc' := 58) zdQ_141_57 zm_141 rfl P (by decide) ?_
  refine zt (pc' := 59) zdQ_141_58 zm_141 rfl rfl ?_
  refine zt_icT (tgt := 76) (pc' := 62) zdQ_141_59 zm_141 rfl rfl (zne (fun e => hy (e.symm.trans f1))) ?_
  refine zt (pc' := 77) zdQ_141_76 zm_141 rfl rfl ?_
  refine zt (pc' := 81) zdQ_141_77 zm_141 rfl rfl ?_
  refine zt (pc' := 83) zdQ_141_81 zm_141 rfl rfl ?_
  show zev _ _ _ [_, _, _, _, _, _, _] _ _ _ _
  exact zr_jS1 M P Q
set_option maxHeartbeats 8000000 in
theorem zr_rj3 {d : Nat} {w : zW} {x y z : Int32} {f b : Nat → Int32} (M : w.1 9 = some (.inr (5, [.int 1, .ref 10, .int 0, .ref 11, .ref 12, .ref 13, .ref 14, .ref 15, .ref 16, .int 0, .int 0, .ref 17, .ref 18, .long 0, .ref 19, .ref 20, .int 0, .ref 21, .int 0, .ref 22, .ref 23, .ref 24, .ref 25, .ref 26]))) (P : w.1 10 = some (.inl (0, 21, .inl f))) (Q : w.1 15 = some (.inl (2, 3, .inl b))) (f0 : f 0 = 0) (f1 : f 1 = 0) (f2 : f 2 = 0) (nx : ¬ (x < -4 ∨ 4 < x)) (ny : ¬ (y < -4 ∨ 4 < y)) (nz : ¬ (z < -4 ∨ 4 < z)) (hx : x = 0) (hy : y = 0) (hz : ¬ z = 0) : zmet (d + 2) 141 [.ref 9, .int 0, .int x, .int y, .int z] w (some (.int 1)) (zchW (zu (zu (zu w 10 (.inl (0, 21, .inl (upd f 0 x)))) 10 (.inl (0, 21, .inl (upd (upd f 0 x) 1 y)))) 10 (.inl (0, 21, .inl (upd (upd (upd f 0 x) 1 y) 2 z)))) b) := by
  refine ⟨_, rfl, Nat.le_of_ble_eq_true rfl, ?_⟩
  show zev (d + 2) 141 0 [some (.ref 9), some (.int 0), some (.int x), some (.int y), some (.int z), none, none] [] w _ _
  refine zt (pc' := 1) zdQ_141_0 zm_141 rfl rfl ?_
  refine zt (pc' := 2) zdQ_141_1 zm_141 rfl rfl ?_
  refine zt_V (pc' := 5) zdQ_141_2 zm_141 rfl zq_7_77 rfl (Nat.le_of_ble_eq_true rfl) M zqv_7_77_5 (by decide) rfl (c_isJoint1 M (by decide) (by decide)) ?_
  refine zt_ifF (tgt := 30) (pc' := 8) zdQ_141_5 zm_141 rfl rfl (zneq (by decide)) ?_
  refine zt (pc' := 9) zdQ_141_8 zm_141 rfl rfl ?_
  refine zt_S (pc' := 12) zdQ_141_9 zm_141 rfl zq_7_81 (Nat.le_of_ble_eq_true rfl) (Nat.le_of_ble_eq_true rfl) rfl (zr_way nx) ?_
  refine zt_ifF (tgt := 30) (pc' := 15) zdQ_141_12 zm_141 rfl rfl (zneq (by decide)) ?_
  refine zt (pc' := 16) zdQ_141_15 zm_141 rfl rfl ?_
  refine zt_S (pc' := 19) zdQ_141_16 zm_141 rfl zq_7_81 (Nat.le_of_ble_eq_true rfl) (Nat.le_of_ble_eq_true rfl) rfl (zr_way ny) ?_
  refine zt_ifF (tgt := 30) (pc' := 22) zdQ_141_19 zm_141 rfl rfl (zneq (by decide)) ?_
  refine zt (pc' := 24) zdQ_141_22 zm_141 rfl rfl ?_
  refine zt_S (pc' := 27) zdQ_141_24 zm_141 rfl zq_7_81 (Nat.le_of_ble_eq_true rfl) (Nat.le_of_ble_eq_true rfl) rfl (zr_way nz) ?_
  refine zt_ifT (tgt := 33) (pc' := 30) zdQ_141_27 zm_141 rfl rfl (zne (by decide)) ?_
  refine zt (pc' := 34) zdQ_141_33 zm_141 rfl rfl ?_
  refine zt (pc' := 35) zdQ_141_34 zm_141 rfl rfl ?_
  refine zt (pc' := 36) zdQ_141_35 zm_141 rfl rfl ?_
  refine zt (pc' := 38) zdQ_141_36 zm_141 rfl rfl ?_
  show zev _ _ _ [_, _, _, _, _, _, _] _ _ _ _
  refine zt (pc' := 39) zdQ_141_38 zm_141 rfl rfl ?_
  refine zt_get (pc' := 42) zdQ_141_39 zm_141 rfl rfl M (by decide) rfl ?_
  refine zt (pc' := 44) zdQ_141_42 zm_141 rfl rfl ?_
  refine zt_ial (pc' := 45) zdQ_141_44 zm_141 rfl P (by decide) ?_
  refine zt (pc' := 46) zdQ_141_45 zm_141 rfl rfl ?_
  refine zt_icF (tgt := 76) (pc' := 49) zdQ_141_46 zm_141 rfl rfl (znne (f0.trans hx.symm)) ?_
  refine zt (pc' := 50) zdQ_141_49 zm_141 rfl rfl ?_
  refine zt_get (pc' := 53) zdQ_141_50 zm_141 rfl rfl M (by decide) rfl ?_
  refine zt (pc' := 55) zdQ_141_53 zm_141 rfl rfl ?_
  refine zt (pc' := 56) zdQ_141_55 zm_141 rfl rfl ?_
  refine zt (pc' := 57) zdQ_141_56 zm_141 rfl rfl ?_
  refine zt_ial (pc' := 58) zdQ_141_57 zm_141 rfl P (by decide) ?_
  refine zt (pc' := 59) zdQ_141_58 zm_141 rfl rfl ?_
  refine zt_icF (tgt := 76) (pc' := 62) zdQ_141_59 zm_141 rfl rfl (znne (f1.trans hy.symm)) ?_
  refine zt (pc' := 63) zdQ_141_62 zm_141 rfl rfl ?_
  refine zt_get (pc' := 66) zdQ_141_63 zm_141 rfl rfl M (by decide) rfl ?_
  refine zt (pc' := 68) zdQ_141_66 zm_141 rfl rfl ?_
  refine zt (pc' := 69) zdQ_141_68 zm_141 rfl rfl ?_
  refine zt (pc' := 70) zdQ_141_69 zm_141 rfl rfl ?_
  refine zt_ial (pc' := 71) zdQ_141_70 zm_141 rfl P (by decide) ?_
  refine zt (pc' := 73) zdQ_141_71 zm_141 rfl rfl ?_
  refine zt_icF (tgt := 80) (pc' := 76) zdQ_141_73 zm_141 rfl rfl (zneq (fun e => hz (e.symm.trans f2))) ?_
  refine zt (pc' := 77) zdQ_141_76 zm_141 rfl rfl ?_
  refine zt (pc' := 81) zdQ_141_77 zm_141 rfl rfl ?_
  refine zt (pc' := 83) zdQ_141_81 zm_141 rfl rfl ?_
  show zev _ _ _ [_, _, _, _, _, _, _] _ _ _ _
  exact zr_jS1 M P Q
set_option maxHeartbeats 8000000 in
theorem zr_rj0 {d : Nat} {w : zW} {x y z : Int32} {f b : Nat → Int32} (M : w.1 9 = some (.inr (5, [.int 1, .ref 10, .int 0, .ref 11, .ref 12, .ref 13, .ref 14, .ref 15, .ref 16, .int 0, .int 0, .ref 17, .ref 18, .long 0, .ref 19, .ref 20, .int 0, .ref 21, .int 0, .ref 22, .ref 23, .ref 24, .ref 25, .ref 26]))) (P : w.1 10 = some (.inl (0, 21, .inl f))) (Q : w.1 15 = some (.inl (2, 3, .inl b))) (f0 : f 0 = 0) (f1 : f 1 = 0) (f2 : f 2 = 0) (nx : ¬ (x < -4 ∨ 4 < x)) (ny : ¬ (y < -4 ∨ 4 < y)) (nz : ¬ (z < -4 ∨ 4 < z)) (hx : x = 0) (hy : y = 0) (hz : z = 0) : zmet (d + 2) 141 [.ref 9, .int 0, .int x, .int y, .int z] w (some (.int 0)) (zchW (zu (zu (zu w 10 (.inl (0, 21, .inl (upd f 0 x)))) 10 (.inl (0, 21, .inl (upd (upd f 0 x) 1 y)))) 10 (.inl (0, 21, .inl (upd (upd (upd f 0 x) 1 y) 2 z)))) b) := by
  refine ⟨_, rfl, Nat.le_of_ble_eq_true rfl, ?_⟩
  show zev (d + 2) 141 0 [some (.ref 9), some (.int 0), some (.int x), some (.int y), some (.int z), none, none] [] w _ _
  refine zt (pc' := 1) zdQ_141_0 zm_141 rfl rfl ?_
  refine zt (pc' := 2) zdQ_141_1 zm_141 rfl rfl ?_
  refine zt_V (pc' := 5) zdQ_141_2 zm_141 rfl zq_7_77 rfl (Nat.le_of_ble_eq_true rfl) M zqv_7_77_5 (by decide) rfl (c_isJoint1 M (by decide) (by decide)) ?_
  refine zt_ifF (tgt := 30) (pc' := 8) zdQ_141_5 zm_141 rfl rfl (zneq (by decide)) ?_
  refine zt (pc' := 9) zdQ_141_8 zm_141 rfl rfl ?_
  refine zt_S (pc' := 12) zdQ_141_9 zm_141 rfl zq_7_81 (Nat.le_of_ble_eq_true rfl) (Nat.le_of_ble_eq_true rfl) rfl (zr_way nx) ?_
  refine zt_ifF (tgt := 30) (pc' := 15) zdQ_141_12 zm_141 rfl rfl (zneq (by decide)) ?_
  refine zt (pc' := 16) zdQ_141_15 zm_141 rfl rfl ?_
  refine zt_S (pc' := 19) zdQ_141_16 zm_141 rfl zq_7_81 (Nat.le_of_ble_eq_true rfl) (Nat.le_of_ble_eq_true rfl) rfl (zr_way ny) ?_
  refine zt_ifF (tgt := 30) (pc' := 22) zdQ_141_19 zm_141 rfl rfl (zneq (by decide)) ?_
  refine zt (pc' := 24) zdQ_141_22 zm_141 rfl rfl ?_
  refine zt_S (pc' := 27) zdQ_141_24 zm_141 rfl zq_7_81 (Nat.le_of_ble_eq_true rfl) (Nat.le_of_ble_eq_true rfl) rfl (zr_way nz) ?_
  refine zt_ifT (tgt := 33) (pc' := 30) zdQ_141_27 zm_141 rfl rfl (zne (by decide)) ?_
  refine zt (pc' := 34) zdQ_141_33 zm_141 rfl rfl ?_
  refine zt (pc' := 35) zdQ_141_34 zm_141 rfl rfl ?_
  refine zt (pc' := 36) zdQ_141_35 zm_141 rfl rfl ?_
  refine zt (pc' := 38) zdQ_141_36 zm_141 rfl rfl ?_
  show zev _ _ _ [_, _, _, _, _, _, _] _ _ _ _
  refine zt (pc' := 39) zdQ_141_38 zm_141 rfl rfl ?_
  refine zt_get (pc' := 42) zdQ_141_39 zm_141 rfl rfl M (by decide) rfl ?_
  refine zt (pc' := 44) zdQ_141_42 zm_141 rfl rfl ?_
  refine zt_ial (pc' := 45) zdQ_141_44 zm_141 rfl P (by decide) ?_
  refine zt (pc' := 46) zdQ_141_45 zm_141 rfl rfl ?_
  refine zt_icF (tgt := 76) (pc' := 49) zdQ_141_46 zm_141 rfl rfl (znne (f0.trans hx.symm)) ?_
  refine zt (pc' := 50) zdQ_141_49 zm_141 rfl rfl ?_
  refine zt_get (pc' := 53) zdQ_141_50 zm_141 rfl rfl M (by decide) rfl ?_
  refine zt (pc' := 55) zdQ_141_53 zm_141 rfl rfl ?_
  refine zt (pc' := 56) zdQ_141_55 zm_141 rfl rfl ?_
  refine zt (pc' := 57) zdQ_141_56 zm_141 rfl rfl ?_
  refine zt_ial (pc' := 58) zdQ_141_57 zm_141 rfl P (by decide) ?_
  refine zt (pc' := 59) zdQ_141_58 zm_141 rfl rfl ?_
  refine zt_icF (tgt := 76) (pc' := 62) zdQ_141_59 zm_141 rfl rfl (znne (f1.trans hy.symm)) ?_
  refine zt (pc' := 63) zdQ_141_62 zm_141 rfl rfl ?_
  refine zt_get (pc' := 66) zdQ_141_63 zm_141 rfl rfl M (by decide) rfl ?_
  refine zt (pc' := 68) zdQ_141_66 zm_141 rfl rfl ?_
  refine zt (pc' := 69) zdQ_141_68 zm_141 rfl rfl ?_
  refine zt (pc' := 70) zdQ_141_69 zm_141 rfl rfl ?_
  refine zt_ial (pc' := 71) zdQ_141_70 zm_141 rfl P (by decide) ?_
  refine zt (pc' := 73) zdQ_141_71 zm_141 rfl rfl ?_
  refine zt_icT (tgt := 80) (pc' := 76) zdQ_141_73 zm_141 rfl rfl (zeq (f2.trans hz.symm)) ?_
  refine zt (pc' := 81) zdQ_141_80 zm_141 rfl rfl ?_
  refine zt (pc' := 83) zdQ_141_81 zm_141 rfl rfl ?_
  show zev _ _ _ [_, _, _, _, _, _, _] _ _ _ _
  exact zr_jS0 M P Q
theorem zr_rj {d : Nat} {w : zW} {x y z : Int32} {f b : Nat → Int32} (M : w.1 9 = some (.inr (5, [.int 1, .ref 10, .int 0, .ref 11, .ref 12, .ref 13, .ref 14, .ref 15, .ref 16, .int 0, .int 0, .ref 17, .ref 18, .long 0, .ref 19, .ref 20, .int 0, .ref 21, .int 0, .ref 22, .ref 23, .ref 24, .ref 25, .ref 26]))) (P : w.1 10 = some (.inl (0, 21, .inl f))) (Q : w.1 15 = some (.inl (2, 3, .inl b))) (f0 : f 0 = 0) (f1 : f 1 = 0) (f2 : f 2 = 0) (nx : ¬ (x < -4 ∨ 4 < x)) (ny : ¬ (y < -4 ∨ 4 < y)) (nz : ¬ (z < -4 ∨ 4 < z)) (h : ¬ (x = 0 ∧ y = 0 ∧ z = 0)) : zmet (d + 2) 141 [.ref 9, .int 0, .int x, .int y, .int z] w (some (.int 1)) (zchW (zu (zu (zu w 10 (.inl (0, 21, .inl (upd f 0 x)))) 10 (.inl (0, 21, .inl (upd (upd f 0 x) 1 y)))) 10 (.inl (0, 21, .inl (upd (upd (upd f 0 x) 1 y) 2 z)))) b) := by
  by_cases hx : x = 0
  · by_cases hy : y = 0
    · exact zr_rj3 M P Q f0 f1 f2 nx ny nz hx hy (fun e => h ⟨hx, hy, e⟩)
    · exact zr_rj2 M P Q f0 f1 f2 nx ny nz hx hy
  · exact zr_rj1 M P Q f0 f1 f2 nx ny nz hx
theorem zx4_3 : zarr zx4 3 21 = true := by decide +kernel
theorem zx4_10 : zarr zx4 10 21 = true := by decide +kernel
def zbrr (w : zW) (a n : Nat) : Bool := match w.1 a with
  | some (.inl (2, m, .inl _)) => decide (m = n)
  | _ => false
theorem zbrr_ok {w : zW} {a n : Nat} (h : zbrr w a n = true) : ∃ f : Nat → Int32, w.1 a = some (.inl (2, n, .inl f)) := by
  unfold zbrr at h
  split at h
  · rename_i m f hw
    have e := of_decide_eq_true h
    subst e
    exact ⟨f, hw⟩
  · cases h
theorem zx4_15 : zbrr zx4 15 3 = true := by decide +kernel
theorem p_joint (v x y z : Int32) : zP 86 141 [.int v, .int x, .int y, .int z] := by
  obtain ⟨p, ms, hM⟩ := zx4_9
  by_cases h : v < 0 ∨ (1 : Int32) ≤ v
  · exact zP_same (zr_j0 zx4_1 zx4_2 h) (zr_k0 hM (z10 h))
  · have h1 : ¬ v < 0 := fun k => h (Or.inl k)
    have h2 : ¬ (1 : Int32) ≤ v := fun k => h (Or.inr k)
    have e := z01 h1 h2
    subst e
    by_cases nx : x < -4 ∨ 4 < x
    · exact zP_same (zr_j1 zx4_1 zx4_2 h1 h2 nx) (zr_k1 hM (by decide) (by decide) nx)
    · by_cases ny : y < -4 ∨ 4 < y
      · exact zP_same (zr_j2 zx4_1 zx4_2 h1 h2 nx ny) (zr_k2 hM (by decide) (by decide) nx ny)
      · by_cases nz : z < -4 ∨ 4 < z
        · exact zP_same (zr_j3 zx4_1 zx4_2 h1 h2 nx ny nz) (zr_k3 hM (by decide) (by decide) nx ny nz)
        · obtain ⟨f, P3, f0, f1, f2⟩ := zarr_ok zx4_3
          obtain ⟨g, P10, g0, g1, g2⟩ := zarr_ok zx4_10
          obtain ⟨b, Q⟩ := zbrr_ok zx4_15
          by_cases hh : x = 0 ∧ y = 0 ∧ z = 0
          · obtain ⟨hx, hy, hz⟩ := hh
            exact ⟨0, zx4, _, zr_j4_0 zx4_1 zx4_2 h1 h2 nx ny nz (zr_mv0 zx4_2 P3 f0 f1 f2 hx hy hz), zr_rj0 zx4_9f P10 Q g0 g1 g2 nx ny nz hx hy hz, zx4_Rm, zu_Rm (zu_Rm (zu_Rm (zu_Rm (zu_Rm (zu_Rm zx4_Rm (by decide) (by decide)) (by decide) (by decide)) (by decide) (by decide)) (by decide) (by decide)) (by decide) (by decide)) (by decide) (by decide)⟩
          · have r1 : zRm (zmvW zx4 f x y z) := zu_Rm (zu_Rm (zu_Rm (zu_Rm zx4_Rm (by decide) (by decide)) (by decide) (by decide)) (by decide) (by decide)) (by decide) (by decide)
            have u : ∀ {a : Nat}, a ≠ 2 → a ≠ 3 → (zmvW zx4 f x y z).1 a = zx4.1 a := fun a2 a3 => (zu_ne a2).trans ((zu_ne a3).trans ((zu_ne a3).trans (zu_ne a3)))
            exact ⟨1, _, _, zr_j4_1 zx4_1 zx4_2 h1 h2 nx ny nz (zr_mv zx4_2 P3 f0 f1 f2 hh), zr_rj ((u (by decide) (by decide)).trans zx4_9f) ((u (by decide) (by decide)).trans P10) ((u (by decide) (by decide)).trans Q) g0 g1 g2 nx ny nz hh, r1, zu_Rm (zu_Rm (zu_Rm (zu_Rm (zu_Rm (zu_Rm r1 (by decide) (by decide)) (by decide) (by decide)) (by decide) (by decide)) (by decide) (by decide)) (by decide) (by decide)) (by decide) (by decide)⟩
