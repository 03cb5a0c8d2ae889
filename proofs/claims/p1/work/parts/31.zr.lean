/-! told, cluster, built: walks (printed by wip/gen/ref4.py) -/
theorem zm_10 : zMt[10]? = some (yX1_allJoints, cX1_allJoints, 1, (some .int), 1, false) := rfl
theorem zd_10 (pc : Nat) : zdec 10 pc = zdl_10.lookup pc := rfl
theorem zm_26 : zMt[26]? = some (yX2_clusterAt, cX2_clusterAt, 4, (some .int), 2, false) := rfl
theorem zd_26 (pc : Nat) : zdec 26 pc = zdl_26.lookup pc := rfl
theorem zm_42 : zMt[42]? = some (yX2_partAt, cX2_partAt, 4, (some .int), 2, false) := rfl
theorem zd_42 (pc : Nat) : zdec 42 pc = zdl_42.lookup pc := rfl
theorem zm_45 : zMt[45]? = some (yX2_setAt, cX2_setAt, 5, (some .int), 2, false) := rfl
theorem zd_45 (pc : Nat) : zdec 45 pc = zdl_45.lookup pc := rfl
theorem zm_75 : zMt[75]? = some (yX6_built, cX6_built, 2, (some .int), 6, false) := rfl
theorem zd_75 (pc : Nat) : zdec 75 pc = zdl_75.lookup pc := rfl
theorem zm_107 : zMt[107]? = some (yX7_built, cX7_built, 4, (some .int), 7, false) := rfl
theorem zd_107 (pc : Nat) : zdec 107 pc = zdl_107.lookup pc := rfl
theorem zm_149 : zMt[149]? = some (yX7_part, cX7_part, 6, (some .int), 7, false) := rfl
theorem zd_149 (pc : Nat) : zdec 149 pc = zdl_149.lookup pc := rfl
theorem zq_2_63 : zcl 2 63 = some (3, 1, 9, 0) := by decide +kernel
theorem zq_2_83 : zcl 2 83 = some (4, 0, 39, 2) := by decide +kernel
theorem zq_2_87 : zcl 2 87 = some (4, 0, 29, 0) := by decide +kernel
theorem zq_2_112 : zcl 2 112 = some (3, 1, 10, 0) := by decide +kernel
theorem zq_2_115 : zcl 2 115 = some (4, 0, 36, 1) := by decide +kernel
theorem zq_6_95 : zcl 6 95 = some (5, 0, 4, 1) := by decide +kernel
theorem zq_6_113 : zcl 6 113 = some (4, 0, 42, 1) := by decide +kernel
theorem zq_6_116 : zcl 6 116 = some (4, 0, 45, 2) := by decide +kernel
theorem zq_6_122 : zcl 6 122 = some (3, 1, 9, 0) := by decide +kernel
theorem zq_6_125 : zcl 6 125 = some (4, 0, 26, 1) := by decide +kernel
theorem zq_7_126 : zcl 7 126 = some (2, 0, 148, 1) := by decide +kernel
theorem zq_7_197 : zcl 7 197 = some (3, 5, 119, 1) := by decide +kernel
theorem zq_7_203 : zcl 7 203 = some (3, 5, 149, 2) := by decide +kernel
theorem zq_7_206 : zcl 7 206 = some (3, 5, 133, 3) := by decide +kernel
theorem zq_7_238 : zcl 7 238 = some (3, 5, 127, 0) := by decide +kernel
theorem zqv_2_63_1 : zclv 2 63 1 = some (3, 1, 9, 0) := by decide +kernel
theorem zqv_2_83_0 : zclv 2 83 0 = some (4, 0, 39, 2) := by decide +kernel
theorem zqv_2_83_2 : zclv 2 83 2 = some (4, 2, 39, 2) := by decide +kernel
theorem zqv_2_87_0 : zclv 2 87 0 = some (4, 0, 29, 0) := by decide +kernel
theorem zqv_2_87_2 : zclv 2 87 2 = some (4, 2, 29, 0) := by decide +kernel
theorem zqv_2_112_1 : zclv 2 112 1 = some (3, 1, 10, 0) := by decide +kernel
theorem zqv_2_115_0 : zclv 2 115 0 = some (4, 0, 36, 1) := by decide +kernel
theorem zqv_2_115_2 : zclv 2 115 2 = some (4, 2, 36, 1) := by decide +kernel
theorem zqv_6_95_0 : zclv 6 95 0 = some (5, 0, 4, 1) := by decide +kernel
theorem zqv_6_95_2 : zclv 6 95 2 = some (5, 2, 52, 1) := by decide +kernel
theorem zqv_6_113_0 : zclv 6 113 0 = some (4, 0, 42, 1) := by decide +kernel
theorem zqv_6_113_2 : zclv 6 113 2 = some (4, 2, 42, 1) := by decide +kernel
theorem zqv_6_116_0 : zclv 6 116 0 = some (4, 0, 45, 2) := by decide +kernel
theorem zqv_6_116_2 : zclv 6 116 2 = some (4, 2, 45, 2) := by decide +kernel
theorem zqv_6_122_1 : zclv 6 122 1 = some (3, 1, 9, 0) := by decide +kernel
theorem zqv_6_125_0 : zclv 6 125 0 = some (4, 0, 26, 1) := by decide +kernel
theorem zqv_6_125_2 : zclv 6 125 2 = some (4, 2, 26, 1) := by decide +kernel
theorem zqv_7_197_5 : zclv 7 197 5 = some (3, 5, 119, 1) := by decide +kernel
theorem zqv_7_203_5 : zclv 7 203 5 = some (3, 5, 149, 2) := by decide +kernel
theorem zqv_7_206_5 : zclv 7 206 5 = some (3, 5, 133, 3) := by decide +kernel
theorem zqv_7_238_5 : zclv 7 238 5 = some (3, 5, 127, 0) := by decide +kernel
theorem zdQ_10_0 : zdec 10 0 = some (.iconst 1, 1) := by decide +kernel
theorem zdQ_10_1 : zdec 10 1 = some (.aload_n 0, 1) := by decide +kernel
theorem zdQ_10_2 : zdec 10 2 = some (.getfield 24, 3) := by decide +kernel
theorem zdQ_10_5 : zdec 10 5 = some (.ishl, 1) := by decide +kernel
theorem zdQ_10_6 : zdec 10 6 = some (.iconst 1, 1) := by decide +kernel
theorem zdQ_10_7 : zdec 10 7 = some (.isub, 1) := by decide +kernel
theorem zdQ_10_8 : zdec 10 8 = some (.ireturn, 1) := by decide +kernel
theorem zdQ_26_0 : zdec 26 0 = some (.iconst 0, 1) := by decide +kernel
theorem zdQ_26_1 : zdec 26 1 = some (.istore_n 2, 1) := by decide +kernel
theorem zdQ_26_2 : zdec 26 2 = some (.iconst 0, 1) := by decide +kernel
theorem zdQ_26_3 : zdec 26 3 = some (.istore_n 3, 1) := by decide +kernel
theorem zdQ_26_4 : zdec 26 4 = some (.iload_n 3, 1) := by decide +kernel
theorem zdQ_26_5 : zdec 26 5 = some (.aload_n 0, 1) := by decide +kernel
theorem zdQ_26_6 : zdec 26 6 = some (.getfield 28, 3) := by decide +kernel
theorem zdQ_26_9 : zdec 26 9 = some (.invokevirtual 112, 3) := by decide +kernel
theorem zdQ_26_12 : zdec 26 12 = some (.if_icmp .gt 27, 3) := by decide +kernel
theorem zdQ_26_15 : zdec 26 15 = some (.aload_n 0, 1) := by decide +kernel
theorem zdQ_26_16 : zdec 26 16 = some (.iload_n 3, 1) := by decide +kernel
theorem zdQ_26_17 : zdec 26 17 = some (.invokevirtual 115, 3) := by decide +kernel
theorem zdQ_26_20 : zdec 26 20 = some (.ifCond .eq 13, 3) := by decide +kernel
theorem zdQ_26_33 : zdec 26 33 = some (.iinc 3 1, 3) := by decide +kernel
theorem zdQ_26_36 : zdec 26 36 = some (.goto (-32), 3) := by decide +kernel
theorem zdQ_26_39 : zdec 26 39 = some (.iconst (-1), 1) := by decide +kernel
theorem zdQ_26_40 : zdec 26 40 = some (.ireturn, 1) := by decide +kernel
theorem zdQ_42_0 : zdec 42 0 = some (.aload_n 0, 1) := by decide +kernel
theorem zdQ_42_1 : zdec 42 1 = some (.invokevirtual 87, 3) := by decide +kernel
theorem zdQ_42_4 : zdec 42 4 = some (.iconst 0, 1) := by decide +kernel
theorem zdQ_42_5 : zdec 42 5 = some (.istore_n 2, 1) := by decide +kernel
theorem zdQ_42_6 : zdec 42 6 = some (.iconst 0, 1) := by decide +kernel
theorem zdQ_42_7 : zdec 42 7 = some (.istore_n 3, 1) := by decide +kernel
theorem zdQ_42_8 : zdec 42 8 = some (.iload_n 3, 1) := by decide +kernel
theorem zdQ_42_9 : zdec 42 9 = some (.aload_n 0, 1) := by decide +kernel
theorem zdQ_42_10 : zdec 42 10 = some (.getfield 28, 3) := by decide +kernel
theorem zdQ_42_13 : zdec 42 13 = some (.getfield 47, 3) := by decide +kernel
theorem zdQ_42_16 : zdec 42 16 = some (.if_icmp .ge 32, 3) := by decide +kernel
theorem zdQ_42_48 : zdec 42 48 = some (.iconst (-1), 1) := by decide +kernel
theorem zdQ_42_49 : zdec 42 49 = some (.ireturn, 1) := by decide +kernel
theorem zdQ_45_0 : zdec 45 0 = some (.iconst 0, 1) := by decide +kernel
theorem zdQ_45_1 : zdec 45 1 = some (.istore_n 3, 1) := by decide +kernel
theorem zdQ_45_2 : zdec 45 2 = some (.iconst 0, 1) := by decide +kernel
theorem zdQ_45_3 : zdec 45 3 = some (.istore 4, 2) := by decide +kernel
theorem zdQ_45_5 : zdec 45 5 = some (.iload 4, 2) := by decide +kernel
theorem zdQ_45_7 : zdec 45 7 = some (.aload_n 0, 1) := by decide +kernel
theorem zdQ_45_8 : zdec 45 8 = some (.getfield 28, 3) := by decide +kernel
theorem zdQ_45_11 : zdec 45 11 = some (.invokevirtual 63, 3) := by decide +kernel
theorem zdQ_45_14 : zdec 45 14 = some (.if_icmp .gt 30, 3) := by decide +kernel
theorem zdQ_45_17 : zdec 45 17 = some (.aload_n 0, 1) := by decide +kernel
theorem zdQ_45_18 : zdec 45 18 = some (.iload_n 1, 1) := by decide +kernel
theorem zdQ_45_19 : zdec 45 19 = some (.iload 4, 2) := by decide +kernel
theorem zdQ_45_21 : zdec 45 21 = some (.invokevirtual 83, 3) := by decide +kernel
theorem zdQ_45_24 : zdec 45 24 = some (.ifCond .eq 14, 3) := by decide +kernel
theorem zdQ_45_27 : zdec 45 27 = some (.iload_n 3, 1) := by decide +kernel
theorem zdQ_45_28 : zdec 45 28 = some (.iload_n 2, 1) := by decide +kernel
theorem zdQ_45_29 : zdec 45 29 = some (.if_icmp .ne 6, 3) := by decide +kernel
theorem zdQ_45_35 : zdec 45 35 = some (.iinc 3 1, 3) := by decide +kernel
theorem zdQ_45_38 : zdec 45 38 = some (.iinc 4 1, 3) := by decide +kernel
theorem zdQ_45_41 : zdec 45 41 = some (.goto (-36), 3) := by decide +kernel
theorem zdQ_45_44 : zdec 45 44 = some (.iconst (-1), 1) := by decide +kernel
theorem zdQ_45_45 : zdec 45 45 = some (.ireturn, 1) := by decide +kernel
theorem zdQ_75_0 : zdec 75 0 = some (.aload_n 0, 1) := by decide +kernel
theorem zdQ_75_1 : zdec 75 1 = some (.getfield 12, 3) := by decide +kernel
theorem zdQ_75_4 : zdec 75 4 = some (.iload_n 1, 1) := by decide +kernel
theorem zdQ_75_5 : zdec 75 5 = some (.invokevirtual 34, 3) := by decide +kernel
theorem zdQ_75_8 : zdec 75 8 = some (.ifCond .eq 12, 3) := by decide +kernel
theorem zdQ_75_20 : zdec 75 20 = some (.iconst (-1), 1) := by decide +kernel
theorem zdQ_75_21 : zdec 75 21 = some (.ireturn, 1) := by decide +kernel
theorem zdQ_77_0 : zdec 77 0 = some (.aload_n 0, 1) := by decide +kernel
theorem zdQ_77_1 : zdec 77 1 = some (.iload_n 1, 1) := by decide +kernel
theorem zdQ_77_2 : zdec 77 2 = some (.invokevirtual 82, 3) := by decide +kernel
theorem zdQ_77_5 : zdec 77 5 = some (.astore_n 3, 1) := by decide +kernel
theorem zdQ_77_6 : zdec 77 6 = some (.aload_n 3, 1) := by decide +kernel
theorem zdQ_77_7 : zdec 77 7 = some (.ifnonnull 6, 3) := by decide +kernel
theorem zdQ_77_13 : zdec 77 13 = some (.aload_n 3, 1) := by decide +kernel
theorem zdQ_77_14 : zdec 77 14 = some (.aload_n 0, 1) := by decide +kernel
theorem zdQ_77_15 : zdec 77 15 = some (.getfield 12, 3) := by decide +kernel
theorem zdQ_77_18 : zdec 77 18 = some (.invokevirtual 122, 3) := by decide +kernel
theorem zdQ_77_21 : zdec 77 21 = some (.invokevirtual 95, 3) := by decide +kernel
theorem zdQ_77_24 : zdec 77 24 = some (.aload_n 3, 1) := by decide +kernel
theorem zdQ_77_25 : zdec 77 25 = some (.iload_n 2, 1) := by decide +kernel
theorem zdQ_77_26 : zdec 77 26 = some (.invokevirtual 125, 3) := by decide +kernel
theorem zdQ_77_29 : zdec 77 29 = some (.ireturn, 1) := by decide +kernel
theorem zdQ_99_0 : zdec 99 0 = some (.aload_n 0, 1) := by decide +kernel
theorem zdQ_99_1 : zdec 99 1 = some (.iload_n 1, 1) := by decide +kernel
theorem zdQ_99_2 : zdec 99 2 = some (.invokevirtual 82, 3) := by decide +kernel
theorem zdQ_99_5 : zdec 99 5 = some (.astore 4, 2) := by decide +kernel
theorem zdQ_99_7 : zdec 99 7 = some (.aload 4, 2) := by decide +kernel
theorem zdQ_99_9 : zdec 99 9 = some (.ifnull 13, 3) := by decide +kernel
theorem zdQ_99_12 : zdec 99 12 = some (.iload_n 2, 1) := by decide +kernel
theorem zdQ_99_13 : zdec 99 13 = some (.ifCond .lt 9, 3) := by decide +kernel
theorem zdQ_99_16 : zdec 99 16 = some (.iload_n 2, 1) := by decide +kernel
theorem zdQ_99_17 : zdec 99 17 = some (.bipush 7, 2) := by decide +kernel
theorem zdQ_99_19 : zdec 99 19 = some (.if_icmp .lt 6, 3) := by decide +kernel
theorem zdQ_99_25 : zdec 99 25 = some (.iload_n 2, 1) := by decide +kernel
theorem zdQ_99_26 : zdec 99 26 = some (.iconst 4, 1) := by decide +kernel
theorem zdQ_99_27 : zdec 99 27 = some (.if_icmp .ne 12, 3) := by decide +kernel
theorem zdQ_99_30 : zdec 99 30 = some (.aload 4, 2) := by decide +kernel
theorem zdQ_99_32 : zdec 99 32 = some (.iload_n 3, 1) := by decide +kernel
theorem zdQ_99_33 : zdec 99 33 = some (.invokevirtual 113, 3) := by decide +kernel
theorem zdQ_99_36 : zdec 99 36 = some (.goto 10, 3) := by decide +kernel
theorem zdQ_99_39 : zdec 99 39 = some (.aload 4, 2) := by decide +kernel
theorem zdQ_99_41 : zdec 99 41 = some (.iload_n 2, 1) := by decide +kernel
theorem zdQ_99_42 : zdec 99 42 = some (.iload_n 3, 1) := by decide +kernel
theorem zdQ_99_43 : zdec 99 43 = some (.invokevirtual 116, 3) := by decide +kernel
theorem zdQ_99_46 : zdec 99 46 = some (.ireturn, 1) := by decide +kernel
theorem zdQ_107_0 : zdec 107 0 = some (.iconst 0, 1) := by decide +kernel
theorem zdQ_107_1 : zdec 107 1 = some (.istore_n 2, 1) := by decide +kernel
theorem zdQ_107_2 : zdec 107 2 = some (.iload_n 2, 1) := by decide +kernel
theorem zdQ_107_3 : zdec 107 3 = some (.aload_n 0, 1) := by decide +kernel
theorem zdQ_107_4 : zdec 107 4 = some (.getfield 7, 3) := by decide +kernel
theorem zdQ_107_7 : zdec 107 7 = some (.if_icmp .ge 16, 3) := by decide +kernel
theorem zdQ_107_10 : zdec 107 10 = some (.aload_n 0, 1) := by decide +kernel
theorem zdQ_107_11 : zdec 107 11 = some (.getfield 64, 3) := by decide +kernel
theorem zdQ_107_14 : zdec 107 14 = some (.iload_n 2, 1) := by decide +kernel
theorem zdQ_107_15 : zdec 107 15 = some (.iload_n 2, 1) := by decide +kernel
theorem zdQ_107_16 : zdec 107 16 = some (.iastore, 1) := by decide +kernel
theorem zdQ_107_17 : zdec 107 17 = some (.iinc 2 1, 3) := by decide +kernel
theorem zdQ_107_20 : zdec 107 20 = some (.goto (-18), 3) := by decide +kernel
theorem zdQ_107_23 : zdec 107 23 = some (.aload_n 0, 1) := by decide +kernel
theorem zdQ_107_24 : zdec 107 24 = some (.invokevirtual 238, 3) := by decide +kernel
theorem zdQ_107_27 : zdec 107 27 = some (.istore_n 2, 1) := by decide +kernel
theorem zdQ_107_28 : zdec 107 28 = some (.iconst 1, 1) := by decide +kernel
theorem zdQ_107_29 : zdec 107 29 = some (.istore_n 3, 1) := by decide +kernel
theorem zdQ_107_30 : zdec 107 30 = some (.iload_n 2, 1) := by decide +kernel
theorem zdQ_107_31 : zdec 107 31 = some (.ifCond .ne 32, 3) := by decide +kernel
theorem zdQ_107_63 : zdec 107 63 = some (.iload_n 2, 1) := by decide +kernel
theorem zdQ_107_64 : zdec 107 64 = some (.ifCond .eq 26, 3) := by decide +kernel
theorem zdQ_107_67 : zdec 107 67 = some (.iload_n 1, 1) := by decide +kernel
theorem zdQ_107_68 : zdec 107 68 = some (.iconst 0, 1) := by decide +kernel
theorem zdQ_107_69 : zdec 107 69 = some (.aload_n 0, 1) := by decide +kernel
theorem zdQ_107_70 : zdec 107 70 = some (.getfield 7, 3) := by decide +kernel
theorem zdQ_107_73 : zdec 107 73 = some (.iconst 1, 1) := by decide +kernel
theorem zdQ_107_74 : zdec 107 74 = some (.isub, 1) := by decide +kernel
theorem zdQ_107_75 : zdec 107 75 = some (.invokestatic 70, 3) := by decide +kernel
theorem zdQ_107_78 : zdec 107 78 = some (.ifCond .eq 12, 3) := by decide +kernel
theorem zdQ_107_90 : zdec 107 90 = some (.iconst (-1), 1) := by decide +kernel
theorem zdQ_107_91 : zdec 107 91 = some (.ireturn, 1) := by decide +kernel
theorem zdQ_113_0 : zdec 113 0 = some (.aload_n 0, 1) := by decide +kernel
theorem zdQ_113_1 : zdec 113 1 = some (.iload_n 1, 1) := by decide +kernel
theorem zdQ_113_2 : zdec 113 2 = some (.invokevirtual 158, 3) := by decide +kernel
theorem zdQ_113_5 : zdec 113 5 = some (.ifCond .ne 6, 3) := by decide +kernel
theorem zdQ_113_11 : zdec 113 11 = some (.iconst 0, 1) := by decide +kernel
theorem zdQ_113_12 : zdec 113 12 = some (.istore_n 3, 1) := by decide +kernel
theorem zdQ_113_13 : zdec 113 13 = some (.iload_n 3, 1) := by decide +kernel
theorem zdQ_113_14 : zdec 113 14 = some (.aload_n 0, 1) := by decide +kernel
theorem zdQ_113_15 : zdec 113 15 = some (.getfield 7, 3) := by decide +kernel
theorem zdQ_113_18 : zdec 113 18 = some (.if_icmp .ge 48, 3) := by decide +kernel
theorem zdQ_113_21 : zdec 113 21 = some (.iconst 0, 1) := by decide +kernel
theorem zdQ_113_22 : zdec 113 22 = some (.istore 4, 2) := by decide +kernel
theorem zdQ_113_24 : zdec 113 24 = some (.iload 4, 2) := by decide +kernel
theorem zdQ_113_26 : zdec 113 26 = some (.iload_n 3, 1) := by decide +kernel
theorem zdQ_113_27 : zdec 113 27 = some (.if_icmp .ge 33, 3) := by decide +kernel
theorem zdQ_113_60 : zdec 113 60 = some (.iinc 3 1, 3) := by decide +kernel
theorem zdQ_113_63 : zdec 113 63 = some (.goto (-50), 3) := by decide +kernel
theorem zdQ_113_66 : zdec 113 66 = some (.iconst 0, 1) := by decide +kernel
theorem zdQ_113_67 : zdec 113 67 = some (.istore_n 3, 1) := by decide +kernel
theorem zdQ_113_68 : zdec 113 68 = some (.iconst (-1), 1) := by decide +kernel
theorem zdQ_113_69 : zdec 113 69 = some (.istore 4, 2) := by decide +kernel
theorem zdQ_113_71 : zdec 113 71 = some (.iconst 0, 1) := by decide +kernel
theorem zdQ_113_72 : zdec 113 72 = some (.istore 5, 2) := by decide +kernel
theorem zdQ_113_74 : zdec 113 74 = some (.iload 5, 2) := by decide +kernel
theorem zdQ_113_76 : zdec 113 76 = some (.iconst 1, 1) := by decide +kernel
theorem zdQ_113_77 : zdec 113 77 = some (.aload_n 0, 1) := by decide +kernel
theorem zdQ_113_78 : zdec 113 78 = some (.getfield 7, 3) := by decide +kernel
theorem zdQ_113_81 : zdec 113 81 = some (.ishl, 1) := by decide +kernel
theorem zdQ_113_82 : zdec 113 82 = some (.if_icmp .ge 111, 3) := by decide +kernel
theorem zdQ_113_85 : zdec 113 85 = some (.iload 5, 2) := by decide +kernel
theorem zdQ_113_87 : zdec 113 87 = some (.invokestatic 126, 3) := by decide +kernel
theorem zdQ_113_90 : zdec 113 90 = some (.iconst 1, 1) := by decide +kernel
theorem zdQ_113_91 : zdec 113 91 = some (.if_icmp .le 16, 3) := by decide +kernel
theorem zdQ_113_107 : zdec 113 107 = some (.iconst 0, 1) := by decide +kernel
theorem zdQ_113_108 : zdec 113 108 = some (.istore 6, 2) := by decide +kernel
theorem zdQ_113_110 : zdec 113 110 = some (.iconst 0, 1) := by decide +kernel
theorem zdQ_113_111 : zdec 113 111 = some (.istore 7, 2) := by decide +kernel
theorem zdQ_113_113 : zdec 113 113 = some (.iload 7, 2) := by decide +kernel
theorem zdQ_113_115 : zdec 113 115 = some (.aload_n 0, 1) := by decide +kernel
theorem zdQ_113_116 : zdec 113 116 = some (.getfield 7, 3) := by decide +kernel
theorem zdQ_113_119 : zdec 113 119 = some (.if_icmp .ge 46, 3) := by decide +kernel
theorem zdQ_113_122 : zdec 113 122 = some (.iload 6, 2) := by decide +kernel
theorem zdQ_113_124 : zdec 113 124 = some (.ifCond .eq 41, 3) := by decide +kernel
theorem zdQ_113_165 : zdec 113 165 = some (.iload 6, 2) := by decide +kernel
theorem zdQ_113_167 : zdec 113 167 = some (.ifCond .eq 20, 3) := by decide +kernel
theorem zdQ_113_187 : zdec 113 187 = some (.iinc 5 1, 3) := by decide +kernel
theorem zdQ_113_190 : zdec 113 190 = some (.goto (-116), 3) := by decide +kernel
theorem zdQ_113_193 : zdec 113 193 = some (.iload 4, 2) := by decide +kernel
theorem zdQ_113_195 : zdec 113 195 = some (.ireturn, 1) := by decide +kernel
theorem zdQ_149_0 : zdec 149 0 = some (.aload_n 0, 1) := by decide +kernel
theorem zdQ_149_1 : zdec 149 1 = some (.iload_n 1, 1) := by decide +kernel
theorem zdQ_149_2 : zdec 149 2 = some (.invokevirtual 197, 3) := by decide +kernel
theorem zdQ_149_5 : zdec 149 5 = some (.iconst 0, 1) := by decide +kernel
theorem zdQ_149_6 : zdec 149 6 = some (.istore_n 3, 1) := by decide +kernel
theorem zdQ_149_7 : zdec 149 7 = some (.iconst (-1), 1) := by decide +kernel
theorem zdQ_149_8 : zdec 149 8 = some (.istore 4, 2) := by decide +kernel
theorem zdQ_149_10 : zdec 149 10 = some (.iconst 0, 1) := by decide +kernel
theorem zdQ_149_11 : zdec 149 11 = some (.istore 5, 2) := by decide +kernel
theorem zdQ_149_13 : zdec 149 13 = some (.iload 5, 2) := by decide +kernel
theorem zdQ_149_15 : zdec 149 15 = some (.aload_n 0, 1) := by decide +kernel
theorem zdQ_149_16 : zdec 149 16 = some (.getfield 74, 3) := by decide +kernel
theorem zdQ_149_19 : zdec 149 19 = some (.if_icmp .ge 48, 3) := by decide +kernel
theorem zdQ_149_67 : zdec 149 67 = some (.aload_n 0, 1) := by decide +kernel
theorem zdQ_149_68 : zdec 149 68 = some (.iload_n 3, 1) := by decide +kernel
theorem zdQ_149_69 : zdec 149 69 = some (.putfield 200, 3) := by decide +kernel
theorem zdQ_149_72 : zdec 149 72 = some (.iload 4, 2) := by decide +kernel
theorem zdQ_149_74 : zdec 149 74 = some (.ireturn, 1) := by decide +kernel
theorem zdQ_166_0 : zdec 166 0 = some (.aload_n 0, 1) := by decide +kernel
theorem zdQ_166_1 : zdec 166 1 = some (.iload_n 1, 1) := by decide +kernel
theorem zdQ_166_2 : zdec 166 2 = some (.invokevirtual 158, 3) := by decide +kernel
theorem zdQ_166_5 : zdec 166 5 = some (.ifCond .eq 13, 3) := by decide +kernel
theorem zdQ_166_8 : zdec 166 8 = some (.iload_n 2, 1) := by decide +kernel
theorem zdQ_166_9 : zdec 166 9 = some (.iconst 0, 1) := by decide +kernel
theorem zdQ_166_10 : zdec 166 10 = some (.bipush 6, 2) := by decide +kernel
theorem zdQ_166_12 : zdec 166 12 = some (.invokestatic 70, 3) := by decide +kernel
theorem zdQ_166_15 : zdec 166 15 = some (.ifCond .ne 6, 3) := by decide +kernel
theorem zdQ_166_21 : zdec 166 21 = some (.iload_n 2, 1) := by decide +kernel
theorem zdQ_166_22 : zdec 166 22 = some (.iconst 4, 1) := by decide +kernel
theorem zdQ_166_23 : zdec 166 23 = some (.if_icmp .ne 10, 3) := by decide +kernel
theorem zdQ_166_26 : zdec 166 26 = some (.aload_n 0, 1) := by decide +kernel
theorem zdQ_166_27 : zdec 166 27 = some (.iload_n 1, 1) := by decide +kernel
theorem zdQ_166_28 : zdec 166 28 = some (.iload_n 3, 1) := by decide +kernel
theorem zdQ_166_29 : zdec 166 29 = some (.invokevirtual 203, 3) := by decide +kernel
theorem zdQ_166_32 : zdec 166 32 = some (.ireturn, 1) := by decide +kernel
theorem zdQ_166_33 : zdec 166 33 = some (.iconst 0, 1) := by decide +kernel
theorem zdQ_166_34 : zdec 166 34 = some (.istore 4, 2) := by decide +kernel
theorem zdQ_166_36 : zdec 166 36 = some (.iconst (-1), 1) := by decide +kernel
theorem zdQ_166_37 : zdec 166 37 = some (.istore 5, 2) := by decide +kernel
theorem zdQ_166_39 : zdec 166 39 = some (.iconst 0, 1) := by decide +kernel
theorem zdQ_166_40 : zdec 166 40 = some (.istore 6, 2) := by decide +kernel
theorem zdQ_166_42 : zdec 166 42 = some (.iload 6, 2) := by decide +kernel
theorem zdQ_166_44 : zdec 166 44 = some (.aload_n 0, 1) := by decide +kernel
theorem zdQ_166_45 : zdec 166 45 = some (.invokevirtual 151, 3) := by decide +kernel
theorem zdQ_166_48 : zdec 166 48 = some (.if_icmp .gt 43, 3) := by decide +kernel
theorem zdQ_166_51 : zdec 166 51 = some (.iload 5, 2) := by decide +kernel
theorem zdQ_166_53 : zdec 166 53 = some (.ifCond .ge 38, 3) := by decide +kernel
theorem zdQ_166_56 : zdec 166 56 = some (.aload_n 0, 1) := by decide +kernel
theorem zdQ_166_57 : zdec 166 57 = some (.iload_n 1, 1) := by decide +kernel
theorem zdQ_166_58 : zdec 166 58 = some (.iload_n 2, 1) := by decide +kernel
theorem zdQ_166_59 : zdec 166 59 = some (.iload 6, 2) := by decide +kernel
theorem zdQ_166_61 : zdec 166 61 = some (.invokevirtual 206, 3) := by decide +kernel
theorem zdQ_166_64 : zdec 166 64 = some (.ifCond .eq 21, 3) := by decide +kernel
theorem zdQ_166_67 : zdec 166 67 = some (.iload 4, 2) := by decide +kernel
theorem zdQ_166_69 : zdec 166 69 = some (.iload_n 3, 1) := by decide +kernel
theorem zdQ_166_70 : zdec 166 70 = some (.if_icmp .ne 8, 3) := by decide +kernel
theorem zdQ_166_78 : zdec 166 78 = some (.iload 5, 2) := by decide +kernel
theorem zdQ_166_80 : zdec 166 80 = some (.istore 5, 2) := by decide +kernel
theorem zdQ_166_82 : zdec 166 82 = some (.iinc 4 1, 3) := by decide +kernel
theorem zdQ_166_85 : zdec 166 85 = some (.iinc 6 1, 3) := by decide +kernel
theorem zdQ_166_88 : zdec 166 88 = some (.goto (-46), 3) := by decide +kernel
theorem zdQ_166_91 : zdec 166 91 = some (.iload 5, 2) := by decide +kernel
theorem zdQ_166_93 : zdec 166 93 = some (.ireturn, 1) := by decide +kernel
theorem zr_e0 : (1 <<< ((0 : Int32) &&& 31) - 1 : Int32) = 0 := by decide
theorem zr_aB {d : Nat} {w : zW} {a : Nat} {p0 p1 p2 p3 : Value} {j ve : Int32} (hF : w.1 a = some (.inr (1, [p0, p1, p2, p3, .int j, .int 0, .int ve]))) : zmet d 9 [.ref a] w (some (.int 0)) w := by
  have h := c_allBars (d := d) hF
  rw [zr_e0] at h
  exact h
theorem zr_all {d : Nat} {w : zW} {ms : List Value} {n : Int32} {pl : Value} (hM : w.1 9 = some (.inr (5, .int n :: pl :: .int 0 :: ms))) : zmet d 102 [.ref 9] w (some (.int 0)) w := by
  have h := c_all (d := d) hM
  rw [zr_e0] at h
  exact h
theorem zr_aJ {d : Nat} {w : zW} {a : Nat} {p0 p1 p2 p3 : Value} {bs ve : Int32} (hF : w.1 a = some (.inr (1, [p0, p1, p2, p3, .int 1, .int bs, .int ve]))) : zmet (d) 10 [.ref a] w (some (.int 1)) w := by
  refine ⟨_, rfl, Nat.le_of_ble_eq_true rfl, ?_⟩
  show zev (d) 10 0 [some (.ref a)] [] w _ _
  refine zt (pc' := 1) zdQ_10_0 zm_10 rfl rfl ?_
  refine zt (pc' := 2) zdQ_10_1 zm_10 rfl rfl ?_
  refine zt_get (pc' := 5) zdQ_10_2 zm_10 rfl rfl hF (by decide) rfl ?_
  refine zt (pc' := 6) zdQ_10_5 zm_10 rfl rfl ?_
  refine zt (pc' := 7) zdQ_10_6 zm_10 rfl rfl ?_
  refine zt (pc' := 8) zdQ_10_7 zm_10 rfl rfl ?_
  exact zte zdQ_10_8 zm_10 rfl
theorem zt_put {d mi pc mL o : Nat} {L : zL} {rr : List Value} {w w' : zW} {r : Option Value} {y : MethodName} {b : ByteArray} {ret : Option FieldType} {ini : Bool} {pc' idx a ci k : Nat} {fs : List Value} {cs : List Nat} {v : Value} (hd : zdec mi pc = some (.putfield idx, 3)) (hM : zMt[mi]? = some (y, b, mL, ret, o, ini)) (hf : zfl o idx = some (k, cs)) (hp : pc + 3 = pc') (ha : w.1 a = some (.inr (ci, fs))) (hc : ci ∈ cs) (hl : k < fs.length) (hv : zokv (ztyp ci k) v = true) (hn : zfin o ci k ini = true) (kk : zev d mi pc' L rr (va_up w.1 a (some (.inr (ci, fs.set k v))), w.2) r w') : zev d mi pc L (v :: .ref a :: rr) w r w' := by
  subst hp
  exact zev_put hM (zdec_ok hM hd) hf ha hc hl hv hn kk
set_option maxHeartbeats 8000000 in
theorem zr_set1_0 {d : Nat} {w1 w2 : zW} {za : Nat} {b k : Int32} {g1 : List Value} (z1 : w1.1 za = some (.inr (0, .ref 2 :: g1))) (f1 : w1.1 2 = some (.inr (1, [.ref 3, .ref 4, .ref 5, .ref 6, .int 1, .int 0, .int 1]))) (hk : zmet d 39 [.ref za, .int b, .int 0] w1 (some (.int 1)) w2) {g2 : List Value} (z2 : w2.1 za = some (.inr (0, .ref 2 :: g2))) (f2 : w2.1 2 = some (.inr (1, [.ref 3, .ref 4, .ref 5, .ref 6, .int 1, .int 0, .int 1]))) (hn : ¬ (0 : Int32) = k) : zmet (d + 1) 45 [.ref za, .int b, .int k] w1 (some (.int (-1))) w2 := by
  refine ⟨_, rfl, Nat.le_of_ble_eq_true rfl, ?_⟩
  show zev (d + 1) 45 0 [some (.ref za), some (.int b), some (.int k), none, none] [] w1 _ _
  refine zt (pc' := 1) zdQ_45_0 zm_45 rfl rfl ?_
  refine zt (pc' := 2) zdQ_45_1 zm_45 rfl rfl ?_
  show zev _ _ _ [_, _, _, _, _] _ _ _ _
  refine zt (pc' := 3) zdQ_45_2 zm_45 rfl rfl ?_
  refine zt (pc' := 5) zdQ_45_3 zm_45 rfl rfl ?_
  show zev _ _ _ [_, _, _, _, _] _ _ _ _
  refine zt (pc' := 7) zdQ_45_5 zm_45 rfl rfl ?_
  refine zt (pc' := 8) zdQ_45_7 zm_45 rfl rfl ?_
  refine zt_get (pc' := 11) zdQ_45_8 zm_45 rfl rfl z1 (by decide) rfl ?_
  refine zt_V (pc' := 14) zdQ_45_11 zm_45 rfl zq_2_63 rfl (Nat.le_of_ble_eq_true rfl) f1 zqv_2_63_1 (by decide) rfl (zr_aB f1) ?_
  refine zt_icF (tgt := 44) (pc' := 17) zdQ_45_14 zm_45 rfl rfl (zngt (by decide)) ?_
  refine zt (pc' := 18) zdQ_45_17 zm_45 rfl rfl ?_
  refine zt (pc' := 19) zdQ_45_18 zm_45 rfl rfl ?_
  refine zt (pc' := 21) zdQ_45_19 zm_45 rfl rfl ?_
  refine zt_V (pc' := 24) zdQ_45_21 zm_45 rfl zq_2_83 rfl (Nat.le_of_ble_eq_true rfl) z1 zqv_2_83_0 (by decide) rfl (hk) ?_
  refine zt_ifF (tgt := 38) (pc' := 27) zdQ_45_24 zm_45 rfl rfl (zneq (by decide)) ?_
  refine zt (pc' := 28) zdQ_45_27 zm_45 rfl rfl ?_
  refine zt (pc' := 29) zdQ_45_28 zm_45 rfl rfl ?_
  refine zt_icT (tgt := 35) (pc' := 32) zdQ_45_29 zm_45 rfl rfl (zne hn) ?_
  refine zt (pc' := 38) zdQ_45_35 zm_45 rfl rfl ?_
  show zev _ _ _ [_, _, _, _, _] _ _ _ _
  refine zt (pc' := 41) zdQ_45_38 zm_45 rfl rfl ?_
  show zev _ _ _ [_, _, _, _, _] _ _ _ _
  refine zt (pc' := 5) zdQ_45_41 zm_45 rfl rfl ?_
  refine zt (pc' := 7) zdQ_45_5 zm_45 rfl rfl ?_
  refine zt (pc' := 8) zdQ_45_7 zm_45 rfl rfl ?_
  refine zt_get (pc' := 11) zdQ_45_8 zm_45 rfl rfl z2 (by decide) rfl ?_
  refine zt_V (pc' := 14) zdQ_45_11 zm_45 rfl zq_2_63 rfl (Nat.le_of_ble_eq_true rfl) f2 zqv_2_63_1 (by decide) rfl (zr_aB f2) ?_
  refine zt_icT (tgt := 44) (pc' := 17) zdQ_45_14 zm_45 rfl rfl (zgt (by decide)) ?_
  refine zt (pc' := 45) zdQ_45_44 zm_45 rfl rfl ?_
  exact zte zdQ_45_45 zm_45 rfl
theorem zr_set0_0 {d : Nat} {w1 w2 : zW} {za : Nat} {b k : Int32} {g1 : List Value} (z1 : w1.1 za = some (.inr (0, .ref 2 :: g1))) (f1 : w1.1 2 = some (.inr (1, [.ref 3, .ref 4, .ref 5, .ref 6, .int 1, .int 0, .int 1]))) (hk : zmet d 39 [.ref za, .int b, .int 0] w1 (some (.int 0)) w2) {g2 : List Value} (z2 : w2.1 za = some (.inr (0, .ref 2 :: g2))) (f2 : w2.1 2 = some (.inr (1, [.ref 3, .ref 4, .ref 5, .ref 6, .int 1, .int 0, .int 1]))) : zmet (d + 1) 45 [.ref za, .int b, .int k] w1 (some (.int (-1))) w2 := by
  refine ⟨_, rfl, Nat.le_of_ble_eq_true rfl, ?_⟩
  show zev (d + 1) 45 0 [some (.ref za), some (.int b), some (.int k), none, none] [] w1 _ _
  refine zt (pc' := 1) zdQ_45_0 zm_45 rfl rfl ?_
  refine zt (pc' := 2) zdQ_45_1 zm_45 rfl rfl ?_
  show zev _ _ _ [_, _, _, _, _] _ _ _ _
  refine zt (pc' := 3) zdQ_45_2 zm_45 rfl rfl ?_
  refine zt (pc' := 5) zdQ_45_3 zm_45 rfl rfl ?_
  show zev _ _ _ [_, _, _, _, _] _ _ _ _
  refine zt (pc' := 7) zdQ_45_5 zm_45 rfl rfl ?_
  refine zt (pc' := 8) zdQ_45_7 zm_45 rfl rfl ?_
  refine zt_get (pc' := 11) zdQ_45_8 zm_45 rfl rfl z1 (by decide) rfl ?_
  refine zt_V (pc' := 14) zdQ_45_11 zm_45 rfl zq_2_63 rfl (Nat.le_of_ble_eq_true rfl) f1 zqv_2_63_1 (by decide) rfl (zr_aB f1) ?_
  refine zt_icF (tgt := 44) (pc' := 17) zdQ_45_14 zm_45 rfl rfl (zngt (by decide)) ?_
  refine zt (pc' := 18) zdQ_45_17 zm_45 rfl rfl ?_
  refine zt (pc' := 19) zdQ_45_18 zm_45 rfl rfl ?_
  refine zt (pc' := 21) zdQ_45_19 zm_45 rfl rfl ?_
  refine zt_V (pc' := 24) zdQ_45_21 zm_45 rfl zq_2_83 rfl (Nat.le_of_ble_eq_true rfl) z1 zqv_2_83_0 (by decide) rfl (hk) ?_
  refine zt_ifT (tgt := 38) (pc' := 27) zdQ_45_24 zm_45 rfl rfl (zeq rfl) ?_
  refine zt (pc' := 41) zdQ_45_38 zm_45 rfl rfl ?_
  show zev _ _ _ [_, _, _, _, _] _ _ _ _
  refine zt (pc' := 5) zdQ_45_41 zm_45 rfl rfl ?_
  refine zt (pc' := 7) zdQ_45_5 zm_45 rfl rfl ?_
  refine zt (pc' := 8) zdQ_45_7 zm_45 rfl rfl ?_
  refine zt_get (pc' := 11) zdQ_45_8 zm_45 rfl rfl z2 (by decide) rfl ?_
  refine zt_V (pc' := 14) zdQ_45_11 zm_45 rfl zq_2_63 rfl (Nat.le_of_ble_eq_true rfl) f2 zqv_2_63_1 (by decide) rfl (zr_aB f2) ?_
  refine zt_icT (tgt := 44) (pc' := 17) zdQ_45_14 zm_45 rfl rfl (zgt (by decide)) ?_
  refine zt (pc' := 45) zdQ_45_44 zm_45 rfl rfl ?_
  exact zte zdQ_45_45 zm_45 rfl
theorem zr_part_0 {d : Nat} {w1 w2 : zW} {za : Nat} {k : Int32} {g1 : List Value} (z1 : w1.1 za = some (.inr (0, .ref 2 :: g1))) (hg : zmet d 29 [.ref za] w1 none w2) {g2 : List Value} (z2 : w2.1 za = some (.inr (0, .ref 2 :: g2))) (f2 : w2.1 2 = some (.inr (1, [.ref 3, .ref 4, .ref 5, .ref 6, .int 1, .int 0, .int 1]))) : zmet (d + 1) 42 [.ref za, .int k] w1 (some (.int (-1))) w2 := by
  refine ⟨_, rfl, Nat.le_of_ble_eq_true rfl, ?_⟩
  show zev (d + 1) 42 0 [some (.ref za), some (.int k), none, none] [] w1 _ _
  refine zt (pc' := 1) zdQ_42_0 zm_42 rfl rfl ?_
  refine zt_V (pc' := 4) zdQ_42_1 zm_42 rfl zq_2_87 rfl (Nat.le_of_ble_eq_true rfl) z1 zqv_2_87_0 (by decide) rfl (hg) ?_
  refine zt (pc' := 5) zdQ_42_4 zm_42 rfl rfl ?_
  refine zt (pc' := 6) zdQ_42_5 zm_42 rfl rfl ?_
  show zev _ _ _ [_, _, _, _] _ _ _ _
  refine zt (pc' := 7) zdQ_42_6 zm_42 rfl rfl ?_
  refine zt (pc' := 8) zdQ_42_7 zm_42 rfl rfl ?_
  show zev _ _ _ [_, _, _, _] _ _ _ _
  refine zt (pc' := 9) zdQ_42_8 zm_42 rfl rfl ?_
  refine zt (pc' := 10) zdQ_42_9 zm_42 rfl rfl ?_
  refine zt_get (pc' := 13) zdQ_42_10 zm_42 rfl rfl z2 (by decide) rfl ?_
  refine zt_get (pc' := 16) zdQ_42_13 zm_42 rfl rfl f2 (by decide) rfl ?_
  refine zt_icT (tgt := 48) (pc' := 19) zdQ_42_16 zm_42 rfl rfl (zge (by decide)) ?_
  refine zt (pc' := 49) zdQ_42_48 zm_42 rfl rfl ?_
  exact zte zdQ_42_49 zm_42 rfl
theorem zr_toldS_0 {w1 w2 : zW} {za : Nat} {s b k v : Int32} (hm : zmet 39 91 [.ref 1, .int s] zx4 (some (.ref za)) w1) {g1 : List Value} (z1 : w1.1 za = some (.inr (0, .ref 2 :: g1))) (h0 : ¬ b < 0) (h7 : b < 7) (h4 : ¬ b = 4) (hs : zmet 39 45 [.ref za, .int b, .int k] w1 (some (.int v)) w2) : zmet (40) 99 [.ref 1, .int s, .int b, .int k] zx4 (some (.int v)) w2 := by
  refine ⟨_, rfl, Nat.le_of_ble_eq_true rfl, ?_⟩
  show zev (40) 99 0 [some (.ref 1), some (.int s), some (.int b), some (.int k), none] [] zx4 _ _
  refine zt (pc' := 1) zdQ_99_0 zm_99 rfl rfl ?_
  refine zt (pc' := 2) zdQ_99_1 zm_99 rfl rfl ?_
  refine zt_V (pc' := 5) zdQ_99_2 zm_99 rfl zq_6_82 rfl (Nat.le_of_ble_eq_true rfl) zx4_1 zqv_6_82_4 (by decide) rfl (hm) ?_
  refine zt (pc' := 7) zdQ_99_5 zm_99 rfl rfl ?_
  show zev _ _ _ [_, _, _, _, _] _ _ _ _
  refine zt (pc' := 9) zdQ_99_7 zm_99 rfl rfl ?_
  refine zt (pc' := 12) zdQ_99_9 zm_99 rfl rfl ?_
  refine zt (pc' := 13) zdQ_99_12 zm_99 rfl rfl ?_
  refine zt_ifF (tgt := 22) (pc' := 16) zdQ_99_13 zm_99 rfl rfl (znlt h0) ?_
  refine zt (pc' := 17) zdQ_99_16 zm_99 rfl rfl ?_
  refine zt (pc' := 19) zdQ_99_17 zm_99 rfl rfl ?_
  refine zt_icT (tgt := 25) (pc' := 22) zdQ_99_19 zm_99 rfl rfl (zlt h7) ?_
  refine zt (pc' := 26) zdQ_99_25 zm_99 rfl rfl ?_
  refine zt (pc' := 27) zdQ_99_26 zm_99 rfl rfl ?_
  refine zt_icT (tgt := 39) (pc' := 30) zdQ_99_27 zm_99 rfl rfl (zne h4) ?_
  refine zt (pc' := 41) zdQ_99_39 zm_99 rfl rfl ?_
  refine zt (pc' := 42) zdQ_99_41 zm_99 rfl rfl ?_
  refine zt (pc' := 43) zdQ_99_42 zm_99 rfl rfl ?_
  refine zt_V (pc' := 46) zdQ_99_43 zm_99 rfl zq_6_116 rfl (Nat.le_of_ble_eq_true rfl) z1 zqv_6_116_0 (by decide) rfl (hs) ?_
  exact zte zdQ_99_46 zm_99 rfl
theorem zr_toldP_0 {w1 w2 : zW} {za : Nat} {s k v : Int32} (hm : zmet 39 91 [.ref 1, .int s] zx4 (some (.ref za)) w1) {g1 : List Value} (z1 : w1.1 za = some (.inr (0, .ref 2 :: g1))) (hs : zmet 39 42 [.ref za, .int k] w1 (some (.int v)) w2) : zmet (40) 99 [.ref 1, .int s, .int 4, .int k] zx4 (some (.int v)) w2 := by
  refine ⟨_, rfl, Nat.le_of_ble_eq_true rfl, ?_⟩
  show zev (40) 99 0 [some (.ref 1), some (.int s), some (.int 4), some (.int k), none] [] zx4 _ _
  refine zt (pc' := 1) zdQ_99_0 zm_99 rfl rfl ?_
  refine zt (pc' := 2) zdQ_99_1 zm_99 rfl rfl ?_
  refine zt_V (pc' := 5) zdQ_99_2 zm_99 rfl zq_6_82 rfl (Nat.le_of_ble_eq_true rfl) zx4_1 zqv_6_82_4 (by decide) rfl (hm) ?_
  refine zt (pc' := 7) zdQ_99_5 zm_99 rfl rfl ?_
  show zev _ _ _ [_, _, _, _, _] _ _ _ _
  refine zt (pc' := 9) zdQ_99_7 zm_99 rfl rfl ?_
  refine zt (pc' := 12) zdQ_99_9 zm_99 rfl rfl ?_
  refine zt (pc' := 13) zdQ_99_12 zm_99 rfl rfl ?_
  refine zt_ifF (tgt := 22) (pc' := 16) zdQ_99_13 zm_99 rfl rfl (znlt (by decide)) ?_
  refine zt (pc' := 17) zdQ_99_16 zm_99 rfl rfl ?_
  refine zt (pc' := 19) zdQ_99_17 zm_99 rfl rfl ?_
  refine zt_icT (tgt := 25) (pc' := 22) zdQ_99_19 zm_99 rfl rfl (zlt (by decide)) ?_
  refine zt (pc' := 26) zdQ_99_25 zm_99 rfl rfl ?_
  refine zt (pc' := 27) zdQ_99_26 zm_99 rfl rfl ?_
  refine zt_icF (tgt := 39) (pc' := 30) zdQ_99_27 zm_99 rfl rfl (znne rfl) ?_
  refine zt (pc' := 32) zdQ_99_30 zm_99 rfl rfl ?_
  refine zt (pc' := 33) zdQ_99_32 zm_99 rfl rfl ?_
  refine zt_V (pc' := 36) zdQ_99_33 zm_99 rfl zq_6_113 rfl (Nat.le_of_ble_eq_true rfl) z1 zqv_6_113_0 (by decide) rfl (hs) ?_
  refine zt (pc' := 46) zdQ_99_36 zm_99 rfl rfl ?_
  exact zte zdQ_99_46 zm_99 rfl
set_option maxHeartbeats 8000000 in
theorem zr_clA_0 {d : Nat} {w1 w2 w3 : zW} {za : Nat} {k : Int32} {g1 : List Value} (z1 : w1.1 za = some (.inr (0, .ref 2 :: g1))) (f1 : w1.1 2 = some (.inr (1, [.ref 3, .ref 4, .ref 5, .ref 6, .int 1, .int 0, .int 1]))) {g2 : List Value} (z2 : w2.1 za = some (.inr (0, .ref 2 :: g2))) (f2 : w2.1 2 = some (.inr (1, [.ref 3, .ref 4, .ref 5, .ref 6, .int 1, .int 0, .int 1]))) {g3 : List Value} (z3 : w3.1 za = some (.inr (0, .ref 2 :: g3))) (f3 : w3.1 2 = some (.inr (1, [.ref 3, .ref 4, .ref 5, .ref 6, .int 1, .int 0, .int 1]))) (h0 : zmet d 36 [.ref za, .int 0] w1 (some (.int 0)) w2) (h1 : zmet d 36 [.ref za, .int 1] w2 (some (.int 0)) w3) : zmet (d + 1) 26 [.ref za, .int k] w1 (some (.int (-1))) w3 := by
  refine ⟨_, rfl, Nat.le_of_ble_eq_true rfl, ?_⟩
  show zev (d + 1) 26 0 [some (.ref za), some (.int k), none, none] [] w1 _ _
  refine zt (pc' := 1) zdQ_26_0 zm_26 rfl rfl ?_
  refine zt (pc' := 2) zdQ_26_1 zm_26 rfl rfl ?_
  show zev _ _ _ [_, _, _, _] _ _ _ _
  refine zt (pc' := 3) zdQ_26_2 zm_26 rfl rfl ?_
  refine zt (pc' := 4) zdQ_26_3 zm_26 rfl rfl ?_
  show zev _ _ _ [_, _, _, _] _ _ _ _
  refine zt (pc' := 5) zdQ_26_4 zm_26 rfl rfl ?_
  refine zt (pc' := 6) zdQ_26_5 zm_26 rfl rfl ?_
  refine zt_get (pc' := 9) zdQ_26_6 zm_26 rfl rfl z1 (by decide) rfl ?_
  refine zt_V (pc' := 12) zdQ_26_9 zm_26 rfl zq_2_112 rfl (Nat.le_of_ble_eq_true rfl) f1 zqv_2_112_1 (by decide) rfl (zr_aJ f1) ?_
  refine zt_icF (tgt := 39) (pc' := 15) zdQ_26_12 zm_26 rfl rfl (zngt (by decide)) ?_
  refine zt (pc' := 16) zdQ_26_15 zm_26 rfl rfl ?_
  refine zt (pc' := 17) zdQ_26_16 zm_26 rfl rfl ?_
  refine zt_V (pc' := 20) zdQ_26_17 zm_26 rfl zq_2_115 rfl (Nat.le_of_ble_eq_true rfl) z1 zqv_2_115_0 (by decide) rfl (h0) ?_
  refine zt_ifT (tgt := 33) (pc' := 23) zdQ_26_20 zm_26 rfl rfl (zeq rfl) ?_
  refine zt (pc' := 36) zdQ_26_33 zm_26 rfl rfl ?_
  show zev _ _ _ [_, _, _, _] _ _ _ _
  refine zt (pc' := 4) zdQ_26_36 zm_26 rfl rfl ?_
  refine zt (pc' := 5) zdQ_26_4 zm_26 rfl rfl ?_
  refine zt (pc' := 6) zdQ_26_5 zm_26 rfl rfl ?_
  refine zt_get (pc' := 9) zdQ_26_6 zm_26 rfl rfl z2 (by decide) rfl ?_
  refine zt_V (pc' := 12) zdQ_26_9 zm_26 rfl zq_2_112 rfl (Nat.le_of_ble_eq_true rfl) f2 zqv_2_112_1 (by decide) rfl (zr_aJ f2) ?_
  refine zt_icF (tgt := 39) (pc' := 15) zdQ_26_12 zm_26 rfl rfl (zngt (by decide)) ?_
  refine zt (pc' := 16) zdQ_26_15 zm_26 rfl rfl ?_
  refine zt (pc' := 17) zdQ_26_16 zm_26 rfl rfl ?_
  refine zt_V (pc' := 20) zdQ_26_17 zm_26 rfl zq_2_115 rfl (Nat.le_of_ble_eq_true rfl) z2 zqv_2_115_0 (by decide) rfl (h1) ?_
  refine zt_ifT (tgt := 33) (pc' := 23) zdQ_26_20 zm_26 rfl rfl (zeq rfl) ?_
  refine zt (pc' := 36) zdQ_26_33 zm_26 rfl rfl ?_
  show zev _ _ _ [_, _, _, _] _ _ _ _
  refine zt (pc' := 4) zdQ_26_36 zm_26 rfl rfl ?_
  refine zt (pc' := 5) zdQ_26_4 zm_26 rfl rfl ?_
  refine zt (pc' := 6) zdQ_26_5 zm_26 rfl rfl ?_
  refine zt_get (pc' := 9) zdQ_26_6 zm_26 rfl rfl z3 (by decide) rfl ?_
  refine zt_V (pc' := 12) zdQ_26_9 zm_26 rfl zq_2_112 rfl (Nat.le_of_ble_eq_true rfl) f3 zqv_2_112_1 (by decide) rfl (zr_aJ f3) ?_
  refine zt_icT (tgt := 39) (pc' := 15) zdQ_26_12 zm_26 rfl rfl (zgt (by decide)) ?_
  refine zt (pc' := 40) zdQ_26_39 zm_26 rfl rfl ?_
  exact zte zdQ_26_40 zm_26 rfl
theorem zr_cl_0 {w1 w2 w3 : zW} {za : Nat} {s k v : Int32} (hm : zmet 39 91 [.ref 1, .int s] zx4 (some (.ref za)) w1) (k1 : w1.1 1 = some (.inr (4, [.ref 2, .ref 7, .ref 8]))) (f1 : w1.1 2 = some (.inr (1, [.ref 3, .ref 4, .ref 5, .ref 6, .int 1, .int 0, .int 1]))) {g1 : List Value} (z1 : w1.1 za = some (.inr (0, .ref 2 :: g1))) (hl : zmet 39 4 [.ref za, .int 0] w1 none w2) {g2 : List Value} (z2 : w2.1 za = some (.inr (0, .ref 2 :: g2))) (hc : zmet 39 26 [.ref za, .int k] w2 (some (.int v)) w3) : zmet (40) 77 [.ref 1, .int s, .int k] zx4 (some (.int v)) w3 := by
  refine ⟨_, rfl, Nat.le_of_ble_eq_true rfl, ?_⟩
  show zev (40) 77 0 [some (.ref 1), some (.int s), some (.int k), none] [] zx4 _ _
  refine zt (pc' := 1) zdQ_77_0 zm_77 rfl rfl ?_
  refine zt (pc' := 2) zdQ_77_1 zm_77 rfl rfl ?_
  refine zt_V (pc' := 5) zdQ_77_2 zm_77 rfl zq_6_82 rfl (Nat.le_of_ble_eq_true rfl) zx4_1 zqv_6_82_4 (by decide) rfl (hm) ?_
  refine zt (pc' := 6) zdQ_77_5 zm_77 rfl rfl ?_
  show zev _ _ _ [_, _, _, _] _ _ _ _
  refine zt (pc' := 7) zdQ_77_6 zm_77 rfl rfl ?_
  refine zt (pc' := 13) zdQ_77_7 zm_77 rfl rfl ?_
  refine zt (pc' := 14) zdQ_77_13 zm_77 rfl rfl ?_
  refine zt (pc' := 15) zdQ_77_14 zm_77 rfl rfl ?_
  refine zt_get (pc' := 18) zdQ_77_15 zm_77 rfl rfl k1 (by decide) rfl ?_
  refine zt_V (pc' := 21) zdQ_77_18 zm_77 rfl zq_6_122 rfl (Nat.le_of_ble_eq_true rfl) f1 zqv_6_122_1 (by decide) rfl (zr_aB f1) ?_
  refine zt_V (pc' := 24) zdQ_77_21 zm_77 rfl zq_6_95 rfl (Nat.le_of_ble_eq_true rfl) z1 zqv_6_95_0 (by decide) rfl (hl) ?_
  refine zt (pc' := 25) zdQ_77_24 zm_77 rfl rfl ?_
  refine zt (pc' := 26) zdQ_77_25 zm_77 rfl rfl ?_
  refine zt_V (pc' := 29) zdQ_77_26 zm_77 rfl zq_6_125 rfl (Nat.le_of_ble_eq_true rfl) z2 zqv_6_125_0 (by decide) rfl (hc) ?_
  exact zte zdQ_77_29 zm_77 rfl
set_option maxHeartbeats 8000000 in
theorem zr_set1_2 {d : Nat} {w1 w2 : zW} {za : Nat} {b k : Int32} {g1 : List Value} (z1 : w1.1 za = some (.inr (2, .ref 2 :: g1))) (f1 : w1.1 2 = some (.inr (1, [.ref 3, .ref 4, .ref 5, .ref 6, .int 1, .int 0, .int 1]))) (hk : zmet d 39 [.ref za, .int b, .int 0] w1 (some (.int 1)) w2) {g2 : List Value} (z2 : w2.1 za = some (.inr (2, .ref 2 :: g2))) (f2 : w2.1 2 = some (.inr (1, [.ref 3, .ref 4, .ref 5, .ref 6, .int 1, .int 0, .int 1]))) (hn : ¬ (0 : Int32) = k) : zmet (d + 1) 45 [.ref za, .int b, .int k] w1 (some (.int (-1))) w2 := by
  refine ⟨_, rfl, Nat.le_of_ble_eq_true rfl, ?_⟩
  show zev (d + 1) 45 0 [some (.ref za), some (.int b), some (.int k), none, none] [] w1 _ _
  refine zt (pc' := 1) zdQ_45_0 zm_45 rfl rfl ?_
  refine zt (pc' := 2) zdQ_45_1 zm_45 rfl rfl ?_
  show zev _ _ _ [_, _, _, _, _] _ _ _ _
  refine zt (pc' := 3) zdQ_45_2 zm_45 rfl rfl ?_
  refine zt (pc' := 5) zdQ_45_3 zm_45 rfl rfl ?_
  show zev _ _ _ [_, _, _, _, _] _ _ _ _
  refine zt (pc' := 7) zdQ_45_5 zm_45 rfl rfl ?_
  refine zt (pc' := 8) zdQ_45_7 zm_45 rfl rfl ?_
  refine zt_get (pc' := 11) zdQ_45_8 zm_45 rfl rfl z1 (by decide) rfl ?_
  refine zt_V (pc' := 14) zdQ_45_11 zm_45 rfl zq_2_63 rfl (Nat.le_of_ble_eq_true rfl) f1 zqv_2_63_1 (by decide) rfl (zr_aB f1) ?_
  refine zt_icF (tgt := 44) (pc' := 17) zdQ_45_14 zm_45 rfl rfl (zngt (by decide)) ?_
  refine zt (pc' := 18) zdQ_45_17 zm_45 rfl rfl ?_
  refine zt (pc' := 19) zdQ_45_18 zm_45 rfl rfl ?_
  refine zt (pc' := 21) zdQ_45_19 zm_45 rfl rfl ?_
  refine zt_V (pc' := 24) zdQ_45_21 zm_45 rfl zq_2_83 rfl (Nat.le_of_ble_eq_true rfl) z1 zqv_2_83_2 (by decide) rfl (hk) ?_
  refine zt_ifF (tgt := 38) (pc' := 27) zdQ_45_24 zm_45 rfl rfl (zneq (by decide)) ?_
  refine zt (pc' := 28) zdQ_45_27 zm_45 rfl rfl ?_
  refine zt (pc' := 29) zdQ_45_28 zm_45 rfl rfl ?_
  refine zt_icT (tgt := 35) (pc' := 32) zdQ_45_29 zm_45 rfl rfl (zne hn) ?_
  refine zt (pc' := 38) zdQ_45_35 zm_45 rfl rfl ?_
  show zev _ _ _ [_, _, _, _, _] _ _ _ _
  refine zt (pc' := 41) zdQ_45_38 zm_45 rfl rfl ?_
  show zev _ _ _ [_, _, _, _, _] _ _ _ _
  refine zt (pc' := 5) zdQ_45_41 zm_45 rfl rfl ?_
  refine zt (pc' := 7) zdQ_45_5 zm_45 rfl rfl ?_
  refine zt (pc' := 8) zdQ_45_7 zm_45 rfl rfl ?_
  refine zt_get (pc' := 11) zdQ_45_8 zm_45 rfl rfl z2 (by decide) rfl ?_
  refine zt_V (pc' := 14) zdQ_45_11 zm_45 rfl zq_2_63 rfl (Nat.le_of_ble_eq_true rfl) f2 zqv_2_63_1 (by decide) rfl (zr_aB f2) ?_
  refine zt_icT (tgt := 44) (pc' := 17) zdQ_45_14 zm_45 rfl rfl (zgt (by decide)) ?_
  refine zt (pc' := 45) zdQ_45_44 zm_45 rfl rfl ?_
  exact zte zdQ_45_45 zm_45 rfl
theorem zr_set0_2 {d : Nat} {w1 w2 : zW} {za : Nat} {b k : Int32} {g1 : List Value} (z1 : w1.1 za = some (.inr (2, .ref 2 :: g1))) (f1 : w1.1 2 = some (.inr (1, [.ref 3, .ref 4, .ref 5, .ref 6, .int 1, .int 0, .int 1]))) (hk : zmet d 39 [.ref za, .int b, .int 0] w1 (some (.int 0)) w2) {g2 : List Value} (z2 : w2.1 za = some (.inr (2, .ref 2 :: g2))) (f2 : w2.1 2 = some (.inr (1, [.ref 3, .ref 4, .ref 5, .ref 6, .int 1, .int 0, .int 1]))) : zmet (d + 1) 45 [.ref za, .int b, .int k] w1 (some (.int (-1))) w2 := by
  refine ⟨_, rfl, Nat.le_of_ble_eq_true rfl, ?_⟩
  show zev (d + 1) 45 0 [some (.ref za), some (.int b), some (.int k), none, none] [] w1 _ _
  refine zt (pc' := 1) zdQ_45_0 zm_45 rfl rfl ?_
  refine zt (pc' := 2) zdQ_45_1 zm_45 rfl rfl ?_
  show zev _ _ _ [_, _, _, _, _] _ _ _ _
  refine zt (pc' := 3) zdQ_45_2 zm_45 rfl rfl ?_
  refine zt (pc' := 5) zdQ_45_3 zm_45 rfl rfl ?_
  show zev _ _ _ [_, _, _, _, _] _ _ _ _
  refine zt (pc' := 7) zdQ_45_5 zm_45 rfl rfl ?_
  refine zt (pc' := 8) zdQ_45_7 zm_45 rfl rfl ?_
  refine zt_get (pc' := 11) zdQ_45_8 zm_45 rfl rfl z1 (by decide) rfl ?_
  refine zt_V (pc' := 14) zdQ_45_11 zm_45 rfl zq_2_63 rfl (Nat.le_of_ble_eq_true rfl) f1 zqv_2_63_1 (by decide) rfl (zr_aB f1) ?_
  refine zt_icF (tgt := 44) (pc' := 17) zdQ_45_14 zm_45 rfl rfl (zngt (by decide)) ?_
  refine zt (pc' := 18) zdQ_45_17 zm_45 rfl rfl ?_
  refine zt (pc' := 19) zdQ_45_18 zm_45 rfl rfl ?_
  refine zt (pc' := 21) zdQ_45_19 zm_45 rfl rfl ?_
  refine zt_V (pc' := 24) zdQ_45_21 zm_45 rfl zq_2_83 rfl (Nat.le_of_ble_eq_true rfl) z1 zqv_2_83_2 (by decide) rfl (hk) ?_
  refine zt_ifT (tgt := 38) (pc' := 27) zdQ_45_24 zm_45 rfl rfl (zeq rfl) ?_
  refine zt (pc' := 41) zdQ_45_38 zm_45 rfl rfl ?_
  show zev _ _ _ [_, _, _, _, _] _ _ _ _
  refine zt (pc' := 5) zdQ_45_41 zm_45 rfl rfl ?_
  refine zt (pc' := 7) zdQ_45_5 zm_45 rfl rfl ?_
  refine zt (pc' := 8) zdQ_45_7 zm_45 rfl rfl ?_
  refine zt_get (pc' := 11) zdQ_45_8 zm_45 rfl rfl z2 (by decide) rfl ?_
  refine zt_V (pc' := 14) zdQ_45_11 zm_45 rfl zq_2_63 rfl (Nat.le_of_ble_eq_true rfl) f2 zqv_2_63_1 (by decide) rfl (zr_aB f2) ?_
  refine zt_icT (tgt := 44) (pc' := 17) zdQ_45_14 zm_45 rfl rfl (zgt (by decide)) ?_
  refine zt (pc' := 45) zdQ_45_44 zm_45 rfl rfl ?_
  exact zte zdQ_45_45 zm_45 rfl
theorem zr_part_2 {d : Nat} {w1 w2 : zW} {za : Nat} {k : Int32} {g1 : List Value} (z1 : w1.1 za = some (.inr (2, .ref 2 :: g1))) (hg : zmet d 29 [.ref za] w1 none w2) {g2 : List Value} (z2 : w2.1 za = some (.inr (2, .ref 2 :: g2))) (f2 : w2.1 2 = some (.inr (1, [.ref 3, .ref 4, .ref 5, .ref 6, .int 1, .int 0, .int 1]))) : zmet (d + 1) 42 [.ref za, .int k] w1 (some (.int (-1))) w2 := by
  refine ⟨_, rfl, Nat.le_of_ble_eq_true rfl, ?_⟩
  show zev (d + 1) 42 0 [some (.ref za), some (.int k), none, none] [] w1 _ _
  refine zt (pc' := 1) zdQ_42_0 zm_42 rfl rfl ?_
  refine zt_V (pc' := 4) zdQ_42_1 zm_42 rfl zq_2_87 rfl (Nat.le_of_ble_eq_true rfl) z1 zqv_2_87_2 (by decide) rfl (hg) ?_
  refine zt (pc' := 5) zdQ_42_4 zm_42 rfl rfl ?_
  refine zt (pc' := 6) zdQ_42_5 zm_42 rfl rfl ?_
  show zev _ _ _ [_, _, _, _] _ _ _ _
  refine zt (pc' := 7) zdQ_42_6 zm_42 rfl rfl ?_
  refine zt (pc' := 8) zdQ_42_7 zm_42 rfl rfl ?_
  show zev _ _ _ [_, _, _, _] _ _ _ _
  refine zt (pc' := 9) zdQ_42_8 zm_42 rfl rfl ?_
  refine zt (pc' := 10) zdQ_42_9 zm_42 rfl rfl ?_
  refine zt_get (pc' := 13) zdQ_42_10 zm_42 rfl rfl z2 (by decide) rfl ?_
  refine zt_get (pc' := 16) zdQ_42_13 zm_42 rfl rfl f2 (by decide) rfl ?_
  refine zt_icT (tgt := 48) (pc' := 19) zdQ_42_16 zm_42 rfl rfl (zge (by decide)) ?_
  refine zt (pc' := 49) zdQ_42_48 zm_42 rfl rfl ?_
  exact zte zdQ_42_49 zm_42 rfl
theorem zr_toldS_2 {w1 w2 : zW} {za : Nat} {s b k v : Int32} (hm : zmet 39 91 [.ref 1, .int s] zx4 (some (.ref za)) w1) {g1 : List Value} (z1 : w1.1 za = some (.inr (2, .ref 2 :: g1))) (h0 : ¬ b < 0) (h7 : b < 7) (h4 : ¬ b = 4) (hs : zmet 39 45 [.ref za, .int b, .int k] w1 (some (.int v)) w2) : zmet (40) 99 [.ref 1, .int s, .int b, .int k] zx4 (some (.int v)) w2 := by
  refine ⟨_, rfl, Nat.le_of_ble_eq_true rfl, ?_⟩
  show zev (40) 99 0 [some (.ref 1), some (.int s), some (.int b), some (.int k), none] [] zx4 _ _
  refine zt (pc' := 1) zdQ_99_0 zm_99 rfl rfl ?_
  refine zt (pc' := 2) zdQ_99_1 zm_99 rfl rfl ?_
  refine zt_V (pc' := 5) zdQ_99_2 zm_99 rfl zq_6_82 rfl (Nat.le_of_ble_eq_true rfl) zx4_1 zqv_6_82_4 (by decide) rfl (hm) ?_
  refine zt (pc' := 7) zdQ_99_5 zm_99 rfl rfl ?_
  show zev _ _ _ [_, _, _, _, _] _ _ _ _
  refine zt (pc' := 9) zdQ_99_7 zm_99 rfl rfl ?_
  refine zt (pc' := 12) zdQ_99_9 zm_99 rfl rfl ?_
  refine zt (pc' := 13) zdQ_99_12 zm_99 rfl rfl ?_
  refine zt_ifF (tgt := 22) (pc' := 16) zdQ_99_13 zm_99 rfl rfl (znlt h0) ?_
  refine zt (pc' := 17) zdQ_99_16 zm_99 rfl rfl ?_
  refine zt (pc' := 19) zdQ_99_17 zm_99 rfl rfl ?_
  refine zt_icT (tgt := 25) (pc' := 22) zdQ_99_19 zm_99 rfl rfl (zlt h7) ?_
  refine zt (pc' := 26) zdQ_99_25 zm_99 rfl rfl ?_
  refine zt (pc' := 27) zdQ_99_26 zm_99 rfl rfl ?_
  refine zt_icT (tgt := 39) (pc' := 30) zdQ_99_27 zm_99 rfl rfl (zne h4) ?_
  refine zt (pc' := 41) zdQ_99_39 zm_99 rfl rfl ?_
  refine zt (pc' := 42) zdQ_99_41 zm_99 rfl rfl ?_
  refine zt (pc' := 43) zdQ_99_42 zm_99 rfl rfl ?_
  refine zt_V (pc' := 46) zdQ_99_43 zm_99 rfl zq_6_116 rfl (Nat.le_of_ble_eq_true rfl) z1 zqv_6_116_2 (by decide) rfl (hs) ?_
  exact zte zdQ_99_46 zm_99 rfl
theorem zr_toldP_2 {w1 w2 : zW} {za : Nat} {s k v : Int32} (hm : zmet 39 91 [.ref 1, .int s] zx4 (some (.ref za)) w1) {g1 : List Value} (z1 : w1.1 za = some (.inr (2, .ref 2 :: g1))) (hs : zmet 39 42 [.ref za, .int k] w1 (some (.int v)) w2) : zmet (40) 99 [.ref 1, .int s, .int 4, .int k] zx4 (some (.int v)) w2 := by
  refine ⟨_, rfl, Nat.le_of_ble_eq_true rfl, ?_⟩
  show zev (40) 99 0 [some (.ref 1), some (.int s), some (.int 4), some (.int k), none] [] zx4 _ _
  refine zt (pc' := 1) zdQ_99_0 zm_99 rfl rfl ?_
  refine zt (pc' := 2) zdQ_99_1 zm_99 rfl rfl ?_
  refine zt_V (pc' := 5) zdQ_99_2 zm_99 rfl zq_6_82 rfl (Nat.le_of_ble_eq_true rfl) zx4_1 zqv_6_82_4 (by decide) rfl (hm) ?_
  refine zt (pc' := 7) zdQ_99_5 zm_99 rfl rfl ?_
  show zev _ _ _ [_, _, _, _, _] _ _ _ _
  refine zt (pc' := 9) zdQ_99_7 zm_99 rfl rfl ?_
  refine zt (pc' := 12) zdQ_99_9 zm_99 rfl rfl ?_
  refine zt (pc' := 13) zdQ_99_12 zm_99 rfl rfl ?_
  refine zt_ifF (tgt := 22) (pc' := 16) zdQ_99_13 zm_99 rfl rfl (znlt (by decide)) ?_
  refine zt (pc' := 17) zdQ_99_16 zm_99 rfl rfl ?_
  refine zt (pc' := 19) zdQ_99_17 zm_99 rfl rfl ?_
  refine zt_icT (tgt := 25) (pc' := 22) zdQ_99_19 zm_99 rfl rfl (zlt (by decide)) ?_
  refine zt (pc' := 26) zdQ_99_25 zm_99 rfl rfl ?_
  refine zt (pc' := 27) zdQ_99_26 zm_99 rfl rfl ?_
  refine zt_icF (tgt := 39) (pc' := 30) zdQ_99_27 zm_99 rfl rfl (znne rfl) ?_
  refine zt (pc' := 32) zdQ_99_30 zm_99 rfl rfl ?_
  refine zt (pc' := 33) zdQ_99_32 zm_99 rfl rfl ?_
  refine zt_V (pc' := 36) zdQ_99_33 zm_99 rfl zq_6_113 rfl (Nat.le_of_ble_eq_true rfl) z1 zqv_6_113_2 (by decide) rfl (hs) ?_
  refine zt (pc' := 46) zdQ_99_36 zm_99 rfl rfl ?_
  exact zte zdQ_99_46 zm_99 rfl
set_option maxHeartbeats 8000000 in
theorem zr_clA_2 {d : Nat} {w1 w2 w3 : zW} {za : Nat} {k : Int32} {g1 : List Value} (z1 : w1.1 za = some (.inr (2, .ref 2 :: g1))) (f1 : w1.1 2 = some (.inr (1, [.ref 3, .ref 4, .ref 5, .ref 6, .int 1, .int 0, .int 1]))) {g2 : List Value} (z2 : w2.1 za = some (.inr (2, .ref 2 :: g2))) (f2 : w2.1 2 = some (.inr (1, [.ref 3, .ref 4, .ref 5, .ref 6, .int 1, .int 0, .int 1]))) {g3 : List Value} (z3 : w3.1 za = some (.inr (2, .ref 2 :: g3))) (f3 : w3.1 2 = some (.inr (1, [.ref 3, .ref 4, .ref 5, .ref 6, .int 1, .int 0, .int 1]))) (h0 : zmet d 36 [.ref za, .int 0] w1 (some (.int 0)) w2) (h1 : zmet d 36 [.ref za, .int 1] w2 (some (.int 0)) w3) : zmet (d + 1) 26 [.ref za, .int k] w1 (some (.int (-1))) w3 := by
  refine ⟨_, rfl, Nat.le_of_ble_eq_true rfl, ?_⟩
  show zev (d + 1) 26 0 [some (.ref za), some (.int k), none, none] [] w1 _ _
  refine zt (pc' := 1) zdQ_26_0 zm_26 rfl rfl ?_
  refine zt (pc' := 2) zdQ_26_1 zm_26 rfl rfl ?_
  show zev _ _ _ [_, _, _, _] _ _ _ _
  refine zt (pc' := 3) zdQ_26_2 zm_26 rfl rfl ?_
  refine zt (pc' := 4) zdQ_26_3 zm_26 rfl rfl ?_
  show zev _ _ _ [_, _, _, _] _ _ _ _
  refine zt (pc' := 5) zdQ_26_4 zm_26 rfl rfl ?_
  refine zt (pc' := 6) zdQ_26_5 zm_26 rfl rfl ?_
  refine zt_get (pc' := 9) zdQ_26_6 zm_26 rfl rfl z1 (by decide) rfl ?_
  refine zt_V (pc' := 12) zdQ_26_9 zm_26 rfl zq_2_112 rfl (Nat.le_of_ble_eq_true rfl) f1 zqv_2_112_1 (by decide) rfl (zr_aJ f1) ?_
  refine zt_icF (tgt := 39) (pc' := 15) zdQ_26_12 zm_26 rfl rfl (zngt (by decide)) ?_
  refine zt (pc' := 16) zdQ_26_15 zm_26 rfl rfl ?_
  refine zt (pc' := 17) zdQ_26_16 zm_26 rfl rfl ?_
  refine zt_V (pc' := 20) zdQ_26_17 zm_26 rfl zq_2_115 rfl (Nat.le_of_ble_eq_true rfl) z1 zqv_2_115_2 (by decide) rfl (h0) ?_
  refine zt_ifT (tgt := 33) (pc' := 23) zdQ_26_20 zm_26 rfl rfl (zeq rfl) ?_
  refine zt (pc' := 36) zdQ_26_33 zm_26 rfl rfl ?_
  show zev _ _ _ [_, _, _, _] _ _ _ _
  refine zt (pc' := 4) zdQ_26_36 zm_26 rfl rfl ?_
  refine zt (pc' := 5) zdQ_26_4 zm_26 rfl rfl ?_
  refine zt (pc' := 6) zdQ_26_5 zm_26 rfl rfl ?_
  refine zt_get (pc' := 9) zdQ_26_6 zm_26 rfl rfl z2 (by decide) rfl ?_
  refine zt_V (pc' := 12) zdQ_26_9 zm_26 rfl zq_2_112 rfl (Nat.le_of_ble_eq_true rfl) f2 zqv_2_112_1 (by decide) rfl (zr_aJ f2) ?_
  refine zt_icF (tgt := 39) (pc' := 15) zdQ_26_12 zm_26 rfl rfl (zngt (by decide)) ?_
  refine zt (pc' := 16) zdQ_26_15 zm_26 rfl rfl ?_
  refine zt (pc' := 17) zdQ_26_16 zm_26 rfl rfl ?_
  refine zt_V (pc' := 20) zdQ_26_17 zm_26 rfl zq_2_115 rfl (Nat.le_of_ble_eq_true rfl) z2 zqv_2_115_2 (by decide) rfl (h1) ?_
  refine zt_ifT (tgt := 33) (pc' := 23) zdQ_26_20 zm_26 rfl rfl (zeq rfl) ?_
  refine zt (pc' := 36) zdQ_26_33 zm_26 rfl rfl ?_
  show zev _ _ _ [_, _, _, _] _ _ _ _
  refine zt (pc' := 4) zdQ_26_36 zm_26 rfl rfl ?_
  refine zt (pc' := 5) zdQ_26_4 zm_26 rfl rfl ?_
  refine zt (pc' := 6) zdQ_26_5 zm_26 rfl rfl ?_
  refine zt_get (pc' := 9) zdQ_26_6 zm_26 rfl rfl z3 (by decide) rfl ?_
  refine zt_V (pc' := 12) zdQ_26_9 zm_26 rfl zq_2_112 rfl (Nat.le_of_ble_eq_true rfl) f3 zqv_2_112_1 (by decide) rfl (zr_aJ f3) ?_
  refine zt_icT (tgt := 39) (pc' := 15) zdQ_26_12 zm_26 rfl rfl (zgt (by decide)) ?_
  refine zt (pc' := 40) zdQ_26_39 zm_26 rfl rfl ?_
  exact zte zdQ_26_40 zm_26 rfl
theorem zr_cl_2 {w1 w2 w3 : zW} {za : Nat} {s k v : Int32} (hm : zmet 39 91 [.ref 1, .int s] zx4 (some (.ref za)) w1) (k1 : w1.1 1 = some (.inr (4, [.ref 2, .ref 7, .ref 8]))) (f1 : w1.1 2 = some (.inr (1, [.ref 3, .ref 4, .ref 5, .ref 6, .int 1, .int 0, .int 1]))) {g1 : List Value} (z1 : w1.1 za = some (.inr (2, .ref 2 :: g1))) (hl : zmet 39 52 [.ref za, .int 0] w1 none w2) {g2 : List Value} (z2 : w2.1 za = some (.inr (2, .ref 2 :: g2))) (hc : zmet 39 26 [.ref za, .int k] w2 (some (.int v)) w3) : zmet (40) 77 [.ref 1, .int s, .int k] zx4 (some (.int v)) w3 := by
  refine ⟨_, rfl, Nat.le_of_ble_eq_true rfl, ?_⟩
  show zev (40) 77 0 [some (.ref 1), some (.int s), some (.int k), none] [] zx4 _ _
  refine zt (pc' := 1) zdQ_77_0 zm_77 rfl rfl ?_
  refine zt (pc' := 2) zdQ_77_1 zm_77 rfl rfl ?_
  refine zt_V (pc' := 5) zdQ_77_2 zm_77 rfl zq_6_82 rfl (Nat.le_of_ble_eq_true rfl) zx4_1 zqv_6_82_4 (by decide) rfl (hm) ?_
  refine zt (pc' := 6) zdQ_77_5 zm_77 rfl rfl ?_
  show zev _ _ _ [_, _, _, _] _ _ _ _
  refine zt (pc' := 7) zdQ_77_6 zm_77 rfl rfl ?_
  refine zt (pc' := 13) zdQ_77_7 zm_77 rfl rfl ?_
  refine zt (pc' := 14) zdQ_77_13 zm_77 rfl rfl ?_
  refine zt (pc' := 15) zdQ_77_14 zm_77 rfl rfl ?_
  refine zt_get (pc' := 18) zdQ_77_15 zm_77 rfl rfl k1 (by decide) rfl ?_
  refine zt_V (pc' := 21) zdQ_77_18 zm_77 rfl zq_6_122 rfl (Nat.le_of_ble_eq_true rfl) f1 zqv_6_122_1 (by decide) rfl (zr_aB f1) ?_
  refine zt_V (pc' := 24) zdQ_77_21 zm_77 rfl zq_6_95 rfl (Nat.le_of_ble_eq_true rfl) z1 zqv_6_95_2 (by decide) rfl (hl) ?_
  refine zt (pc' := 25) zdQ_77_24 zm_77 rfl rfl ?_
  refine zt (pc' := 26) zdQ_77_25 zm_77 rfl rfl ?_
  refine zt_V (pc' := 29) zdQ_77_26 zm_77 rfl zq_6_125 rfl (Nat.le_of_ble_eq_true rfl) z2 zqv_6_125_2 (by decide) rfl (hc) ?_
  exact zte zdQ_77_29 zm_77 rfl
set_option maxHeartbeats 8000000 in
theorem zr_rtold1 {w1 w2 : zW} {s b k : Int32} {l1 : Value} {m1 : List Value} (M1 : w1.1 9 = some (.inr (5, .int 1 :: l1 :: .int 0 :: m1))) (hS : zmet 39 138 [.ref 9, .int s] w1 (some (.int 1)) w1) (h0 : ¬ b < 0) (h6 : ¬ 6 < b) (h4 : ¬ b = 4) (hk : zmet 39 133 [.ref 9, .int s, .int b, .int 0] w1 (some (.int 1)) w2) {l2 : Value} {m2 : List Value} (M2 : w2.1 9 = some (.inr (5, .int 1 :: l2 :: .int 0 :: m2))) (hn : ¬ (0 : Int32) = k) : zmet (40) 166 [.ref 9, .int s, .int b, .int k] w1 (some (.int (-1))) w2 := by
  refine ⟨_, rfl, Nat.le_of_ble_eq_true rfl, ?_⟩
  show zev (40) 166 0 [some (.ref 9), some (.int s), some (.int b), some (.int k), none, none, none] [] w1 _ _
  refine zt (pc' := 1) zdQ_166_0 zm_166 rfl rfl ?_
  refine zt (pc' := 2) zdQ_166_1 zm_166 rfl rfl ?_
  refine zt_V (pc' := 5) zdQ_166_2 zm_166 rfl zq_7_158 rfl (Nat.le_of_ble_eq_true rfl) M1 zqv_7_158_5 (by decide) rfl (hS) ?_
  refine zt_ifF (tgt := 18) (pc' := 8) zdQ_166_5 zm_166 rfl rfl (zneq (by decide)) ?_
  refine zt (pc' := 9) zdQ_166_8 zm_166 rfl rfl ?_
  refine zt (pc' := 10) zdQ_166_9 zm_166 rfl rfl ?_
  refine zt (pc' := 12) zdQ_166_10 zm_166 rfl rfl ?_
  refine zt_S (pc' := 15) zdQ_166_12 zm_166 rfl zq_7_70 (Nat.le_of_ble_eq_true rfl) (Nat.le_of_ble_eq_true rfl) rfl (c_isIn1 h0 h6) ?_
  refine zt_ifT (tgt := 21) (pc' := 18) zdQ_166_15 zm_166 rfl rfl (zne (by decide)) ?_
  refine zt (pc' := 22) zdQ_166_21 zm_166 rfl rfl ?_
  refine zt (pc' := 23) zdQ_166_22 zm_166 rfl rfl ?_
  refine zt_icT (tgt := 33) (pc' := 26) zdQ_166_23 zm_166 rfl rfl (zne h4) ?_
  refine zt (pc' := 34) zdQ_166_33 zm_166 rfl rfl ?_
  refine zt (pc' := 36) zdQ_166_34 zm_166 rfl rfl ?_
  show zev _ _ _ [_, _, _, _, _, _, _] _ _ _ _
  refine zt (pc' := 37) zdQ_166_36 zm_166 rfl rfl ?_
  refine zt (pc' := 39) zdQ_166_37 zm_166 rfl rfl ?_
  show zev _ _ _ [_, _, _, _, _, _, _] _ _ _ _
  refine zt (pc' := 40) zdQ_166_39 zm_166 rfl rfl ?_
  refine zt (pc' := 42) zdQ_166_40 zm_166 rfl rfl ?_
  show zev _ _ _ [_, _, _, _, _, _, _] _ _ _ _
  refine zt (pc' := 44) zdQ_166_42 zm_166 rfl rfl ?_
  refine zt (pc' := 45) zdQ_166_44 zm_166 rfl rfl ?_
  refine zt_V (pc' := 48) zdQ_166_45 zm_166 rfl zq_7_151 rfl (Nat.le_of_ble_eq_true rfl) M1 zqv_7_151_5 (by decide) rfl (zr_all M1) ?_
  refine zt_icF (tgt := 91) (pc' := 51) zdQ_166_48 zm_166 rfl rfl (zngt (by decide)) ?_
  refine zt (pc' := 53) zdQ_166_51 zm_166 rfl rfl ?_
  refine zt_ifF (tgt := 91) (pc' := 56) zdQ_166_53 zm_166 rfl rfl (znge (by decide)) ?_
  refine zt (pc' := 57) zdQ_166_56 zm_166 rfl rfl ?_
  refine zt (pc' := 58) zdQ_166_57 zm_166 rfl rfl ?_
  refine zt (pc' := 59) zdQ_166_58 zm_166 rfl rfl ?_
  refine zt (pc' := 61) zdQ_166_59 zm_166 rfl rfl ?_
  refine zt_V (pc' := 64) zdQ_166_61 zm_166 rfl zq_7_206 rfl (Nat.le_of_ble_eq_true rfl) M1 zqv_7_206_5 (by decide) rfl (hk) ?_
  refine zt_ifF (tgt := 85) (pc' := 67) zdQ_166_64 zm_166 rfl rfl (zneq (by decide)) ?_
  refine zt (pc' := 69) zdQ_166_67 zm_166 rfl rfl ?_
  refine zt (pc' := 70) zdQ_166_69 zm_166 rfl rfl ?_
  refine zt_icT (tgt := 78) (pc' := 73) zdQ_166_70 zm_166 rfl rfl (zne hn) ?_
  refine zt (pc' := 80) zdQ_166_78 zm_166 rfl rfl ?_
  refine zt (pc' := 82) zdQ_166_80 zm_166 rfl rfl ?_
  show zev _ _ _ [_, _, _, _, _, _, _] _ _ _ _
  refine zt (pc' := 85) zdQ_166_82 zm_166 rfl rfl ?_
  show zev _ _ _ [_, _, _, _, _, _, _] _ _ _ _
  refine zt (pc' := 88) zdQ_166_85 zm_166 rfl rfl ?_
  show zev _ _ _ [_, _, _, _, _, _, _] _ _ _ _
  refine zt (pc' := 42) zdQ_166_88 zm_166 rfl rfl ?_
  refine zt (pc' := 44) zdQ_166_42 zm_166 rfl rfl ?_
  refine zt (pc' := 45) zdQ_166_44 zm_166 rfl rfl ?_
  refine zt_V (pc' := 48) zdQ_166_45 zm_166 rfl zq_7_151 rfl (Nat.le_of_ble_eq_true rfl) M2 zqv_7_151_5 (by decide) rfl (zr_all M2) ?_
  refine zt_icT (tgt := 91) (pc' := 51) zdQ_166_48 zm_166 rfl rfl (zgt (by decide)) ?_
  refine zt (pc' := 93) zdQ_166_91 zm_166 rfl rfl ?_
  exact zte zdQ_166_93 zm_166 rfl
set_option maxHeartbeats 8000000 in
theorem zr_rtold0 {w1 w2 : zW} {s b k : Int32} {l1 : Value} {m1 : List Value} (M1 : w1.1 9 = some (.inr (5, .int 1 :: l1 :: .int 0 :: m1))) (hS : zmet 39 138 [.ref 9, .int s] w1 (some (.int 1)) w1) (h0 : ¬ b < 0) (h6 : ¬ 6 < b) (h4 : ¬ b = 4) (hk : zmet 39 133 [.ref 9, .int s, .int b, .int 0] w1 (some (.int 0)) w2) {l2 : Value} {m2 : List Value} (M2 : w2.1 9 = some (.inr (5, .int 1 :: l2 :: .int 0 :: m2))) : zmet (40) 166 [.ref 9, .int s, .int b, .int k] w1 (some (.int (-1))) w2 := by
  refine ⟨_, rfl, Nat.le_of_ble_eq_true rfl, ?_⟩
  show zev (40) 166 0 [some (.ref 9), some (.int s), some (.int b), some (.int k), none, none, none] [] w1 _ _
  refine zt (pc' := 1) zdQ_166_0 zm_166 rfl rfl ?_
  refine zt (pc' := 2) zdQ_166_1 zm_166 rfl rfl ?_
  refine zt_V (pc' := 5) zdQ_166_2 zm_166 rfl zq_7_158 rfl (Nat.le_of_ble_eq_true rfl) M1 zqv_7_158_5 (by decide) rfl (hS) ?_
  refine zt_ifF (tgt := 18) (pc' := 8) zdQ_166_5 zm_166 rfl rfl (zneq (by decide)) ?_
  refine zt (pc' := 9) zdQ_166_8 zm_166 rfl rfl ?_
  refine zt (pc' := 10) zdQ_166_9 zm_166 rfl rfl ?_
  refine zt (pc' := 12) zdQ_166_10 zm_166 rfl rfl ?_
  refine zt_S (pc' := 15) zdQ_166_12 zm_166 rfl zq_7_70 (Nat.le_of_ble_eq_true rfl) (Nat.le_of_ble_eq_true rfl) rfl (c_isIn1 h0 h6) ?_
  refine zt_ifT (tgt := 21) (pc' := 18) zdQ_166_15 zm_166 rfl rfl (zne (by decide)) ?_
  refine zt (pc' := 22) zdQ_166_21 zm_166 rfl rfl ?_
  refine zt (pc' := 23) zdQ_166_22 zm_166 rfl rfl ?_
  refine zt_icT (tgt := 33) (pc' := 26) zdQ_166_23 zm_166 rfl rfl (zne h4) ?_
  refine zt (pc' := 34) zdQ_166_33 zm_166 rfl rfl ?_
  refine zt (pc' := 36) zdQ_166_34 zm_166 rfl rfl ?_
  show zev _ _ _ [_, _, _, _, _, _, _] _ _ _ _
  refine zt (pc' := 37) zdQ_166_36 zm_166 rfl rfl ?_
  refine zt (pc' := 39) zdQ_166_37 zm_166 rfl rfl ?_
  show zev _ _ _ [_, _, _, _, _, _, _] _ _ _ _
  refine zt (pc' := 40) zdQ_166_39 zm_166 rfl rfl ?_
  refine zt (pc' := 42) zdQ_166_40 zm_166 rfl rfl ?_
  show zev _ _ _ [_, _, _, _, _, _, _] _ _ _ _
  refine zt (pc' := 44) zdQ_166_42 zm_166 rfl rfl ?_
  refine zt (pc' := 45) zdQ_166_44 zm_166 rfl rfl ?_
  refine zt_V (pc' := 48) zdQ_166_45 zm_166 rfl zq_7_151 rfl (Nat.le_of_ble_eq_true rfl) M1 zqv_7_151_5 (by decide) rfl (zr_all M1) ?_
  refine zt_icF (tgt := 91) (pc' := 51) zdQ_166_48 zm_166 rfl rfl (zngt (by decide)) ?_
  refine zt (pc' := 53) zdQ_166_51 zm_166 rfl rfl ?_
  refine zt_ifF (tgt := 91) (pc' := 56) zdQ_166_53 zm_166 rfl rfl (znge (by decide)) ?_
  refine zt (pc' := 57) zdQ_166_56 zm_166 rfl rfl ?_
  refine zt (pc' := 58) zdQ_166_57 zm_166 rfl rfl ?_
  refine zt (pc' := 59) zdQ_166_58 zm_166 rfl rfl ?_
  refine zt (pc' := 61) zdQ_166_59 zm_166 rfl rfl ?_
  refine zt_V (pc' := 64) zdQ_166_61 zm_166 rfl zq_7_206 rfl (Nat.le_of_ble_eq_true rfl) M1 zqv_7_206_5 (by decide) rfl (hk) ?_
  refine zt_ifT (tgt := 85) (pc' := 67) zdQ_166_64 zm_166 rfl rfl (zeq rfl) ?_
  refine zt (pc' := 88) zdQ_166_85 zm_166 rfl rfl ?_
  show zev _ _ _ [_, _, _, _, _, _, _] _ _ _ _
  refine zt (pc' := 42) zdQ_166_88 zm_166 rfl rfl ?_
  refine zt (pc' := 44) zdQ_166_42 zm_166 rfl rfl ?_
  refine zt (pc' := 45) zdQ_166_44 zm_166 rfl rfl ?_
  refine zt_V (pc' := 48) zdQ_166_45 zm_166 rfl zq_7_151 rfl (Nat.le_of_ble_eq_true rfl) M2 zqv_7_151_5 (by decide) rfl (zr_all M2) ?_
  refine zt_icT (tgt := 91) (pc' := 51) zdQ_166_48 zm_166 rfl rfl (zgt (by decide)) ?_
  refine zt (pc' := 93) zdQ_166_91 zm_166 rfl rfl ?_
  exact zte zdQ_166_93 zm_166 rfl
theorem zr_rtoldP {w1 w2 : zW} {s k v : Int32} {l1 : Value} {m1 : List Value} (M1 : w1.1 9 = some (.inr (5, .int 1 :: l1 :: .int 0 :: m1))) (hS : zmet 39 138 [.ref 9, .int s] w1 (some (.int 1)) w1) (hp : zmet 39 149 [.ref 9, .int s, .int k] w1 (some (.int v)) w2) : zmet (40) 166 [.ref 9, .int s, .int 4, .int k] w1 (some (.int v)) w2 := by
  refine ⟨_, rfl, Nat.le_of_ble_eq_true rfl, ?_⟩
  show zev (40) 166 0 [some (.ref 9), some (.int s), some (.int 4), some (.int k), none, none, none] [] w1 _ _
  refine zt (pc' := 1) zdQ_166_0 zm_166 rfl rfl ?_
  refine zt (pc' := 2) zdQ_166_1 zm_166 rfl rfl ?_
  refine zt_V (pc' := 5) zdQ_166_2 zm_166 rfl zq_7_158 rfl (Nat.le_of_ble_eq_true rfl) M1 zqv_7_158_5 (by decide) rfl (hS) ?_
  refine zt_ifF (tgt := 18) (pc' := 8) zdQ_166_5 zm_166 rfl rfl (zneq (by decide)) ?_
  refine zt (pc' := 9) zdQ_166_8 zm_166 rfl rfl ?_
  refine zt (pc' := 10) zdQ_166_9 zm_166 rfl rfl ?_
  refine zt (pc' := 12) zdQ_166_10 zm_166 rfl rfl ?_
  refine zt_S (pc' := 15) zdQ_166_12 zm_166 rfl zq_7_70 (Nat.le_of_ble_eq_true rfl) (Nat.le_of_ble_eq_true rfl) rfl (c_isIn1 (by decide) (by decide)) ?_
  refine zt_ifT (tgt := 21) (pc' := 18) zdQ_166_15 zm_166 rfl rfl (zne (by decide)) ?_
  refine zt (pc' := 22) zdQ_166_21 zm_166 rfl rfl ?_
  refine zt (pc' := 23) zdQ_166_22 zm_166 rfl rfl ?_
  refine zt_icF (tgt := 33) (pc' := 26) zdQ_166_23 zm_166 rfl rfl (znne rfl) ?_
  refine zt (pc' := 27) zdQ_166_26 zm_166 rfl rfl ?_
  refine zt (pc' := 28) zdQ_166_27 zm_166 rfl rfl ?_
  refine zt (pc' := 29) zdQ_166_28 zm_166 rfl rfl ?_
  refine zt_V (pc' := 32) zdQ_166_29 zm_166 rfl zq_7_203 rfl (Nat.le_of_ble_eq_true rfl) M1 zqv_7_203_5 (by decide) rfl (hp) ?_
  exact zte zdQ_166_32 zm_166 rfl
theorem zr_rpart {d : Nat} {w1 w2 : zW} {s k : Int32} {l1 : Value} {m1 : List Value} (M1 : w1.1 9 = some (.inr (5, .int 1 :: l1 :: .int 0 :: m1))) (hf : zmet d 119 [.ref 9, .int s] w1 none w2) {l2 : Value} {m2 : List Value} (M2 : w2.1 9 = some (.inr (5, .int 1 :: l2 :: .int 0 :: m2))) (hl : m2.length = 21) : zmet (d + 1) 149 [.ref 9, .int s, .int k] w1 (some (.int (-1))) (va_up w2.1 9 (some (.inr (5, (Value.int 1 :: l2 :: .int 0 :: m2).set 18 (.int 0)))), w2.2) := by
  refine ⟨_, rfl, Nat.le_of_ble_eq_true rfl, ?_⟩
  show zev (d + 1) 149 0 [some (.ref 9), some (.int s), some (.int k), none, none, none] [] w1 _ _
  refine zt (pc' := 1) zdQ_149_0 zm_149 rfl rfl ?_
  refine zt (pc' := 2) zdQ_149_1 zm_149 rfl rfl ?_
  refine zt_V (pc' := 5) zdQ_149_2 zm_149 rfl zq_7_197 rfl (Nat.le_of_ble_eq_true rfl) M1 zqv_7_197_5 (by decide) rfl (hf) ?_
  refine zt (pc' := 6) zdQ_149_5 zm_149 rfl rfl ?_
  refine zt (pc' := 7) zdQ_149_6 zm_149 rfl rfl ?_
  show zev _ _ _ [_, _, _, _, _, _] _ _ _ _
  refine zt (pc' := 8) zdQ_149_7 zm_149 rfl rfl ?_
  refine zt (pc' := 10) zdQ_149_8 zm_149 rfl rfl ?_
  show zev _ _ _ [_, _, _, _, _, _] _ _ _ _
  refine zt (pc' := 11) zdQ_149_10 zm_149 rfl rfl ?_
  refine zt (pc' := 13) zdQ_149_11 zm_149 rfl rfl ?_
  show zev _ _ _ [_, _, _, _, _, _] _ _ _ _
  refine zt (pc' := 15) zdQ_149_13 zm_149 rfl rfl ?_
  refine zt (pc' := 16) zdQ_149_15 zm_149 rfl rfl ?_
  refine zt_get (pc' := 19) zdQ_149_16 zm_149 rfl rfl M2 (by decide) rfl ?_
  refine zt_icT (tgt := 67) (pc' := 22) zdQ_149_19 zm_149 rfl rfl (zge (by decide)) ?_
  refine zt (pc' := 68) zdQ_149_67 zm_149 rfl rfl ?_
  refine zt (pc' := 69) zdQ_149_68 zm_149 rfl rfl ?_
  refine zt_put (pc' := 72) zdQ_149_69 zm_149 rfl rfl M2 (by decide) (by simp only [List.length_cons, hl]; decide) rfl rfl ?_
  refine zt (pc' := 74) zdQ_149_72 zm_149 rfl rfl ?_
  exact zte zdQ_149_74 zm_149 rfl
set_option maxHeartbeats 8000000 in
theorem zr_rcl {w1 w2 w3 : zW} {s k : Int32} {l1 : Value} {m1 : List Value} (M1 : w1.1 9 = some (.inr (5, .int 1 :: l1 :: .int 0 :: m1))) (hS : zmet 39 138 [.ref 9, .int s] w1 (some (.int 1)) w1) (o0 : zmet 39 148 [.int 0] w1 (some (.int 0)) w2) {l2 : Value} {m2 : List Value} (M2 : w2.1 9 = some (.inr (5, .int 1 :: l2 :: .int 0 :: m2))) (o1 : zmet 39 148 [.int 1] w2 (some (.int 1)) w3) {l3 : Value} {m3 : List Value} (M3 : w3.1 9 = some (.inr (5, .int 1 :: l3 :: .int 0 :: m3))) : zmet (40) 113 [.ref 9, .int s, .int k] w1 (some (.int (-1))) w3 := by
  refine ⟨_, rfl, Nat.le_of_ble_eq_true rfl, ?_⟩
  show zev (40) 113 0 [some (.ref 9), some (.int s), some (.int k), none, none, none, none, none] [] w1 _ _
  refine zt (pc' := 1) zdQ_113_0 zm_113 rfl rfl ?_
  refine zt (pc' := 2) zdQ_113_1 zm_113 rfl rfl ?_
  refine zt_V (pc' := 5) zdQ_113_2 zm_113 rfl zq_7_158 rfl (Nat.le_of_ble_eq_true rfl) M1 zqv_7_158_5 (by decide) rfl (hS) ?_
  refine zt_ifT (tgt := 11) (pc' := 8) zdQ_113_5 zm_113 rfl rfl (zne (by decide)) ?_
  refine zt (pc' := 12) zdQ_113_11 zm_113 rfl rfl ?_
  refine zt (pc' := 13) zdQ_113_12 zm_113 rfl rfl ?_
  show zev _ _ _ [_, _, _, _, _, _, _, _] _ _ _ _
  refine zt (pc' := 14) zdQ_113_13 zm_113 rfl rfl ?_
  refine zt (pc' := 15) zdQ_113_14 zm_113 rfl rfl ?_
  refine zt_get (pc' := 18) zdQ_113_15 zm_113 rfl rfl M1 (by decide) rfl ?_
  refine zt_icF (tgt := 66) (pc' := 21) zdQ_113_18 zm_113 rfl rfl (znge (by decide)) ?_
  refine zt (pc' := 22) zdQ_113_21 zm_113 rfl rfl ?_
  refine zt (pc' := 24) zdQ_113_22 zm_113 rfl rfl ?_
  show zev _ _ _ [_, _, _, _, _, _, _, _] _ _ _ _
  refine zt (pc' := 26) zdQ_113_24 zm_113 rfl rfl ?_
  refine zt (pc' := 27) zdQ_113_26 zm_113 rfl rfl ?_
  refine zt_icT (tgt := 60) (pc' := 30) zdQ_113_27 zm_113 rfl rfl (zge (by decide)) ?_
  refine zt (pc' := 63) zdQ_113_60 zm_113 rfl rfl ?_
  show zev _ _ _ [_, _, _, _, _, _, _, _] _ _ _ _
  refine zt (pc' := 13) zdQ_113_63 zm_113 rfl rfl ?_
  refine zt (pc' := 14) zdQ_113_13 zm_113 rfl rfl ?_
  refine zt (pc' := 15) zdQ_113_14 zm_113 rfl rfl ?_
  refine zt_get (pc' := 18) zdQ_113_15 zm_113 rfl rfl M1 (by decide) rfl ?_
  refine zt_icT (tgt := 66) (pc' := 21) zdQ_113_18 zm_113 rfl rfl (zge (by decide)) ?_
  refine zt (pc' := 67) zdQ_113_66 zm_113 rfl rfl ?_
  refine zt (pc' := 68) zdQ_113_67 zm_113 rfl rfl ?_
  show zev _ _ _ [_, _, _, _, _, _, _, _] _ _ _ _
  refine zt (pc' := 69) zdQ_113_68 zm_113 rfl rfl ?_
  refine zt (pc' := 71) zdQ_113_69 zm_113 rfl rfl ?_
  show zev _ _ _ [_, _, _, _, _, _, _, _] _ _ _ _
  refine zt (pc' := 72) zdQ_113_71 zm_113 rfl rfl ?_
  refine zt (pc' := 74) zdQ_113_72 zm_113 rfl rfl ?_
  show zev _ _ _ [_, _, _, _, _, _, _, _] _ _ _ _
  refine zt (pc' := 76) zdQ_113_74 zm_113 rfl rfl ?_
  refine zt (pc' := 77) zdQ_113_76 zm_113 rfl rfl ?_
  refine zt (pc' := 78) zdQ_113_77 zm_113 rfl rfl ?_
  refine zt_get (pc' := 81) zdQ_113_78 zm_113 rfl rfl M1 (by decide) rfl ?_
  refine zt (pc' := 82) zdQ_113_81 zm_113 rfl rfl ?_
  refine zt_icF (tgt := 193) (pc' := 85) zdQ_113_82 zm_113 rfl rfl (znge (by decide)) ?_
  refine zt (pc' := 87) zdQ_113_85 zm_113 rfl rfl ?_
  refine zt_S (pc' := 90) zdQ_113_87 zm_113 rfl zq_7_126 (Nat.le_of_ble_eq_true rfl) (Nat.le_of_ble_eq_true rfl) rfl (o0) ?_
  refine zt (pc' := 91) zdQ_113_90 zm_113 rfl rfl ?_
  refine zt_icT (tgt := 107) (pc' := 94) zdQ_113_91 zm_113 rfl rfl (zle' (by decide)) ?_
  refine zt (pc' := 108) zdQ_113_107 zm_113 rfl rfl ?_
  refine zt (pc' := 110) zdQ_113_108 zm_113 rfl rfl ?_
  show zev _ _ _ [_, _, _, _, _, _, _, _] _ _ _ _
  refine zt (pc' := 111) zdQ_113_110 zm_113 rfl rfl ?_
  refine zt (pc' := 113) zdQ_113_111 zm_113 rfl rfl ?_
  show zev _ _ _ [_, _, _, _, _, _, _, _] _ _ _ _
  refine zt (pc' := 115) zdQ_113_113 zm_113 rfl rfl ?_
  refine zt (pc' := 116) zdQ_113_115 zm_113 rfl rfl ?_
  refine zt_get (pc' := 119) zdQ_113_116 zm_113 rfl rfl M2 (by decide) rfl ?_
  refine zt_icF (tgt := 165) (pc' := 122) zdQ_113_119 zm_113 rfl rfl (znge (by decide)) ?_
  refine zt (pc' := 124) zdQ_113_122 zm_113 rfl rfl ?_
  refine zt_ifT (tgt := 165) (pc' := 127) zdQ_113_124 zm_113 rfl rfl (zeq rfl) ?_
  refine zt (pc' := 167) zdQ_113_165 zm_113 rfl rfl ?_
  refine zt_ifT (tgt := 187) (pc' := 170) zdQ_113_167 zm_113 rfl rfl (zeq rfl) ?_
  refine zt (pc' := 190) zdQ_113_187 zm_113 rfl rfl ?_
  show zev _ _ _ [_, _, _, _, _, _, _, _] _ _ _ _
  refine zt (pc' := 74) zdQ_113_190 zm_113 rfl rfl ?_
  refine zt (pc' := 76) zdQ_113_74 zm_113 rfl rfl ?_
  refine zt (pc' := 77) zdQ_113_76 zm_113 rfl rfl ?_
  refine zt (pc' := 78) zdQ_113_77 zm_113 rfl rfl ?_
  refine zt_get (pc' := 81) zdQ_113_78 zm_113 rfl rfl M2 (by decide) rfl ?_
  refine zt (pc' := 82) zdQ_113_81 zm_113 rfl rfl ?_
  refine zt_icF (tgt := 193) (pc' := 85) zdQ_113_82 zm_113 rfl rfl (znge (by decide)) ?_
  refine zt (pc' := 87) zdQ_113_85 zm_113 rfl rfl ?_
  refine zt_S (pc' := 90) zdQ_113_87 zm_113 rfl zq_7_126 (Nat.le_of_ble_eq_true rfl) (Nat.le_of_ble_eq_true rfl) rfl (o1) ?_
  refine zt (pc' := 91) zdQ_113_90 zm_113 rfl rfl ?_
  refine zt_icT (tgt := 107) (pc' := 94) zdQ_113_91 zm_113 rfl rfl (zle' (by decide)) ?_
  refine zt (pc' := 108) zdQ_113_107 zm_113 rfl rfl ?_
  refine zt (pc' := 110) zdQ_113_108 zm_113 rfl rfl ?_
  show zev _ _ _ [_, _, _, _, _, _, _, _] _ _ _ _
  refine zt (pc' := 111) zdQ_113_110 zm_113 rfl rfl ?_
  refine zt (pc' := 113) zdQ_113_111 zm_113 rfl rfl ?_
  show zev _ _ _ [_, _, _, _, _, _, _, _] _ _ _ _
  refine zt (pc' := 115) zdQ_113_113 zm_113 rfl rfl ?_
  refine zt (pc' := 116) zdQ_113_115 zm_113 rfl rfl ?_
  refine zt_get (pc' := 119) zdQ_113_116 zm_113 rfl rfl M3 (by decide) rfl ?_
  refine zt_icF (tgt := 165) (pc' := 122) zdQ_113_119 zm_113 rfl rfl (znge (by decide)) ?_
  refine zt (pc' := 124) zdQ_113_122 zm_113 rfl rfl ?_
  refine zt_ifT (tgt := 165) (pc' := 127) zdQ_113_124 zm_113 rfl rfl (zeq rfl) ?_
  refine zt (pc' := 167) zdQ_113_165 zm_113 rfl rfl ?_
  refine zt_ifT (tgt := 187) (pc' := 170) zdQ_113_167 zm_113 rfl rfl (zeq rfl) ?_
  refine zt (pc' := 190) zdQ_113_187 zm_113 rfl rfl ?_
  show zev _ _ _ [_, _, _, _, _, _, _, _] _ _ _ _
  refine zt (pc' := 74) zdQ_113_190 zm_113 rfl rfl ?_
  refine zt (pc' := 76) zdQ_113_74 zm_113 rfl rfl ?_
  refine zt (pc' := 77) zdQ_113_76 zm_113 rfl rfl ?_
  refine zt (pc' := 78) zdQ_113_77 zm_113 rfl rfl ?_
  refine zt_get (pc' := 81) zdQ_113_78 zm_113 rfl rfl M3 (by decide) rfl ?_
  refine zt (pc' := 82) zdQ_113_81 zm_113 rfl rfl ?_
  refine zt_icT (tgt := 193) (pc' := 85) zdQ_113_82 zm_113 rfl rfl (zge (by decide)) ?_
  refine zt (pc' := 195) zdQ_113_193 zm_113 rfl rfl ?_
  exact zte zdQ_113_195 zm_113 rfl
theorem zr_bu {d : Nat} {w : zW} {v : Int32} {q1 q2 : Value} (hX : w.1 1 = some (.inr (4, [.ref 2, q1, q2]))) {p0 p1 p2 p3 : Value} {ve : Int32} (hF : w.1 2 = some (.inr (1, [p0, p1, p2, p3, .int 1, .int 0, .int ve]))) (h : v < 0 ∨ (1 : Int32) ≤ v) : zmet (d + 1) 75 [.ref 1, .int v] w (some (.int (-1))) w := by
  refine ⟨_, rfl, Nat.le_of_ble_eq_true rfl, ?_⟩
  show zev (d + 1) 75 0 [some (.ref 1), some (.int v)] [] w _ _
  refine zt (pc' := 1) zdQ_75_0 zm_75 rfl rfl ?_
  refine zt_get (pc' := 4) zdQ_75_1 zm_75 rfl rfl hX (by decide) rfl ?_
  refine zt (pc' := 5) zdQ_75_4 zm_75 rfl rfl ?_
  refine zt_V (pc' := 8) zdQ_75_5 zm_75 rfl zq_6_34 rfl (Nat.le_of_ble_eq_true rfl) hF zqv_6_34_1 (by decide) rfl (c_hasJoint0 hF h) ?_
  refine zt_ifT (tgt := 20) (pc' := 11) zdQ_75_8 zm_75 rfl rfl (zeq rfl) ?_
  refine zt (pc' := 21) zdQ_75_20 zm_75 rfl rfl ?_
  exact zte zdQ_75_21 zm_75 rfl
theorem zx4_9f : zx4.1 9 = some (.inr (5, [.int 1, .ref 10, .int 0, .ref 11, .ref 12, .ref 13, .ref 14, .ref 15, .ref 16, .int 0, .int 0, .ref 17, .ref 18, .long 0, .ref 19, .ref 20, .int 0, .ref 21, .int 0, .ref 22, .ref 23, .ref 24, .ref 25, .ref 26])) := zobj_ok (by decide +kernel)
def zarr (w : zW) (a n : Nat) : Bool := match w.1 a with
  | some (.inl (0, m, .inl f)) => decide (m = n) && decide (f 0 = 0) && decide (f 1 = 0) && decide (f 2 = 0)
  | _ => false
theorem zarr_ok {w : zW} {a n : Nat} (h : zarr w a n = true) : ∃ f : Nat → Int32, w.1 a = some (.inl (0, n, .inl f)) ∧ f 0 = 0 ∧ f 1 = 0 ∧ f 2 = 0 := by
  unfold zarr at h
  split at h
  · rename_i m f hw
    simp only [Bool.and_eq_true, decide_eq_true_eq] at h
    obtain ⟨⟨⟨a1, a2⟩, a3⟩, a4⟩ := h
    subst a1
    exact ⟨f, hw, a2, a3, a4⟩
  · cases h
theorem zt_ias {d mi pc mL o a N : Nat} {L : zL} {w w' : zW} {r : Option Value} {y : MethodName} {b : ByteArray} {ret : Option FieldType} {ini : Bool} {f : Nat → Int32} {x v : Int32} {rr : List Value} {pc' : Nat} (hd : zdec mi pc = some (.iastore, 1)) (hM : zMt[mi]? = some (y, b, mL, ret, o, ini)) (hp : pc + 1 = pc') (ha : w.1 a = some (.inl (0, N, .inl f))) (hi : zbd x N = true) (kk : zev d mi pc' L rr (va_up w.1 a (some (.inl (0, N, .inl (upd f x.toNatClampNeg v)))), w.2) r w') : zev d mi pc L (.int v :: .int x :: .ref a :: rr) w r w' := by
  subst hp
  exact zev_iast hM (zdec_ok hM hd) ha hi kk
def zu (w : zW) (a : Nat) (e : va_E) : zW := (va_up w.1 a (some e), w.2)
theorem zu_self {w : zW} {a : Nat} {e : va_E} : (zu w a e).1 a = some e := va_up_self _ _ _
theorem zu_ne {w : zW} {a b : Nat} {e : va_E} (h : b ≠ a) : (zu w a e).1 b = w.1 b := va_up_ne _ _ h
theorem zu_Rm {w : zW} {a : Nat} {e : va_E} (r : zRm w) (h0 : 0 ≠ a) (h9 : 9 ≠ a) : zRm (zu w a e) := ⟨r.1, r.2.1, r.2.2.1, (zu_ne h0).trans r.2.2.2.1, by
  obtain ⟨fs, h⟩ := r.2.2.2.2
  exact ⟨fs, (zu_ne h9).trans h⟩⟩
theorem zt_iau {d mi pc mL o a N : Nat} {L : zL} {w w' : zW} {r : Option Value} {y : MethodName} {b : ByteArray} {ret : Option FieldType} {ini : Bool} {f : Nat → Int32} {x v : Int32} {rr : List Value} {pc' : Nat} (hd : zdec mi pc = some (.iastore, 1)) (hM : zMt[mi]? = some (y, b, mL, ret, o, ini)) (hp : pc + 1 = pc') (ha : w.1 a = some (.inl (0, N, .inl f))) (hi : zbd x N = true) (kk : zev d mi pc' L rr (zu w a (.inl (0, N, .inl (upd f x.toNatClampNeg v)))) r w') : zev d mi pc L (.int v :: .int x :: .ref a :: rr) w r w' := zt_ias hd hM hp ha hi kk
theorem zt_bau {d mi pc mL o a N : Nat} {L : zL} {w w' : zW} {r : Option Value} {y : MethodName} {b : ByteArray} {ret : Option FieldType} {ini : Bool} {f : Nat → Int32} {x v : Int32} {rr : List Value} {pc' : Nat} (hd : zdec mi pc = some (.bastore, 1)) (hM : zMt[mi]? = some (y, b, mL, ret, o, ini)) (hp : pc + 1 = pc') (ha : w.1 a = some (.inl (2, N, .inl f))) (hi : zbd x N = true) (kk : zev d mi pc' L rr (zu w a (.inl (2, N, .inl (upd f x.toNatClampNeg (vp_nar .boolean v))))) r w') : zev d mi pc L (.int v :: .int x :: .ref a :: rr) w r w' := by
  subst hp
  exact zev_bast hM (zdec_ok hM hd) ha hi kk
theorem zt_puu {d mi pc mL o : Nat} {L : zL} {rr : List Value} {w w' : zW} {r : Option Value} {y : MethodName} {b : ByteArray} {ret : Option FieldType} {ini : Bool} {pc' idx a ci k : Nat} {fs : List Value} {cs : List Nat} {v : Value} (hd : zdec mi pc = some (.putfield idx, 3)) (hM : zMt[mi]? = some (y, b, mL, ret, o, ini)) (hf : zfl o idx = some (k, cs)) (hp : pc + 3 = pc') (ha : w.1 a = some (.inr (ci, fs))) (hc : ci ∈ cs) (hl : k < fs.length) (hv : zokv (ztyp ci k) v = true) (hn : zfin o ci k ini = true) (kk : zev d mi pc' L rr (zu w a (.inr (ci, fs.set k v))) r w') : zev d mi pc L (v :: .ref a :: rr) w r w' := zt_put hd hM hf hp ha hc hl hv hn kk
set_option maxHeartbeats 8000000 in
theorem zr_rbu {w1 w2 : zW} {v : Int32} {f : Nat → Int32} (M1 : w1.1 9 = some (.inr (5, [.int 1, .ref 10, .int 0, .ref 11, .ref 12, .ref 13, .ref 14, .ref 15, .ref 16, .int 0, .int 0, .ref 17, .ref 18, .long 0, .ref 19, .ref 20, .int 0, .ref 21, .int 0, .ref 22, .ref 23, .ref 24, .ref 25, .ref 26]))) (A1 : w1.1 26 = some (.inl (0, 7, .inl f))) (hb : zmet 39 127 [.ref 9] (zu w1 26 (.inl (0, 7, .inl (upd f 0 0)))) (some (.int 1)) w2) {l2 : Value} {m2 : List Value} (M2 : w2.1 9 = some (.inr (5, .int 1 :: l2 :: .int 0 :: m2))) (h : v < 0 ∨ (1 : Int32) - 1 < v) : zmet (40) 107 [.ref 9, .int v] w1 (some (.int (-1))) w2 := by
  refine ⟨_, rfl, Nat.le_of_ble_eq_true rfl, ?_⟩
  show zev (40) 107 0 [some (.ref 9), some (.int v), none, none] [] w1 _ _
  refine zt (pc' := 1) zdQ_107_0 zm_107 rfl rfl ?_
  refine zt (pc' := 2) zdQ_107_1 zm_107 rfl rfl ?_
  show zev _ _ _ [_, _, _, _] _ _ _ _
  refine zt (pc' := 3) zdQ_107_2 zm_107 rfl rfl ?_
  refine zt (pc' := 4) zdQ_107_3 zm_107 rfl rfl ?_
  refine zt_get (pc' := 7) zdQ_107_4 zm_107 rfl rfl M1 (by decide) rfl ?_
  refine zt_icF (tgt := 23) (pc' := 10) zdQ_107_7 zm_107 rfl rfl (znge (by decide)) ?_
  refine zt (pc' := 11) zdQ_107_10 zm_107 rfl rfl ?_
  refine zt_get (pc' := 14) zdQ_107_11 zm_107 rfl rfl M1 (by decide) rfl ?_
  refine zt (pc' := 15) zdQ_107_14 zm_107 rfl rfl ?_
  refine zt (pc' := 16) zdQ_107_15 zm_107 rfl rfl ?_
  refine zt_iau (pc' := 17) zdQ_107_16 zm_107 rfl A1 (by decide) ?_
  refine zt (pc' := 20) zdQ_107_17 zm_107 rfl rfl ?_
  show zev _ _ _ [_, _, _, _] _ _ _ _
  refine zt (pc' := 2) zdQ_107_20 zm_107 rfl rfl ?_
  refine zt (pc' := 3) zdQ_107_2 zm_107 rfl rfl ?_
  refine zt (pc' := 4) zdQ_107_3 zm_107 rfl rfl ?_
  refine zt_get (pc' := 7) zdQ_107_4 zm_107 rfl rfl ((zu_ne (by decide)).trans M1) (by decide) rfl ?_
  refine zt_icT (tgt := 23) (pc' := 10) zdQ_107_7 zm_107 rfl rfl (zge (by decide)) ?_
  refine zt (pc' := 24) zdQ_107_23 zm_107 rfl rfl ?_
  refine zt_V (pc' := 27) zdQ_107_24 zm_107 rfl zq_7_238 rfl (Nat.le_of_ble_eq_true rfl) ((zu_ne (by decide)).trans M1) zqv_7_238_5 (by decide) rfl (hb) ?_
  refine zt (pc' := 28) zdQ_107_27 zm_107 rfl rfl ?_
  show zev _ _ _ [_, _, _, _] _ _ _ _
  refine zt (pc' := 29) zdQ_107_28 zm_107 rfl rfl ?_
  refine zt (pc' := 30) zdQ_107_29 zm_107 rfl rfl ?_
  show zev _ _ _ [_, _, _, _] _ _ _ _
  refine zt (pc' := 31) zdQ_107_30 zm_107 rfl rfl ?_
  refine zt_ifT (tgt := 63) (pc' := 34) zdQ_107_31 zm_107 rfl rfl (zne (by decide)) ?_
  refine zt (pc' := 64) zdQ_107_63 zm_107 rfl rfl ?_
  refine zt_ifF (tgt := 90) (pc' := 67) zdQ_107_64 zm_107 rfl rfl (zneq (by decide)) ?_
  refine zt (pc' := 68) zdQ_107_67 zm_107 rfl rfl ?_
  refine zt (pc' := 69) zdQ_107_68 zm_107 rfl rfl ?_
  refine zt (pc' := 70) zdQ_107_69 zm_107 rfl rfl ?_
  refine zt_get (pc' := 73) zdQ_107_70 zm_107 rfl rfl M2 (by decide) rfl ?_
  refine zt (pc' := 74) zdQ_107_73 zm_107 rfl rfl ?_
  refine zt (pc' := 75) zdQ_107_74 zm_107 rfl rfl ?_
  refine zt_S (pc' := 78) zdQ_107_75 zm_107 rfl zq_7_70 (Nat.le_of_ble_eq_true rfl) (Nat.le_of_ble_eq_true rfl) rfl (c_isIn0 h) ?_
  refine zt_ifT (tgt := 90) (pc' := 81) zdQ_107_78 zm_107 rfl rfl (zeq rfl) ?_
  refine zt (pc' := 91) zdQ_107_90 zm_107 rfl rfl ?_
  exact zte zdQ_107_91 zm_107 rfl
