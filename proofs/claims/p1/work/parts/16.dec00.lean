theorem dX0_init_0 : decode cX0_init 0 = .ok (.aload_n 0, 1) := by decide +kernel
theorem dX0_init_1 : decode cX0_init 1 = .ok (.aload_n 1, 1) := by decide +kernel
theorem dX0_init_2 : decode cX0_init 2 = .ok (.invokespecial 3, 3) := by decide +kernel
theorem dX0_init_5 : decode cX0_init 5 = .ok (.aload_n 0, 1) := by decide +kernel
theorem dX0_init_6 : decode cX0_init 6 = .ok (.sipush 128, 3) := by decide +kernel
theorem dX0_init_9 : decode cX0_init 9 = .ok (.newarray .int, 2) := by decide +kernel
theorem dX0_init_11 : decode cX0_init 11 = .ok (.putfield 11, 3) := by decide +kernel
theorem dX0_init_14 : decode cX0_init 14 = .ok (.aload_n 0, 1) := by decide +kernel
theorem dX0_init_15 : decode cX0_init 15 = .ok (.sipush 1664, 3) := by decide +kernel
theorem dX0_init_18 : decode cX0_init 18 = .ok (.newarray .int, 2) := by decide +kernel
theorem dX0_init_20 : decode cX0_init 20 = .ok (.putfield 15, 3) := by decide +kernel
theorem dX0_init_23 : decode cX0_init 23 = .ok (.return_, 1) := by decide +kernel
theorem dX0_mostInside_0 : decode cX0_mostInside 0 = .ok (.iconst 2, 1) := by decide +kernel
theorem dX0_mostInside_1 : decode cX0_mostInside 1 = .ok (.iload_n 0, 1) := by decide +kernel
theorem dX0_mostInside_2 : decode cX0_mostInside 2 = .ok (.invokestatic 18, 3) := by decide +kernel
theorem dX0_mostInside_5 : decode cX0_mostInside 5 = .ok (.imul, 1) := by decide +kernel
theorem dX0_mostInside_6 : decode cX0_mostInside 6 = .ok (.iconst 3, 1) := by decide +kernel
theorem dX0_mostInside_7 : decode cX0_mostInside 7 = .ok (.isub, 1) := by decide +kernel
theorem dX0_mostInside_8 : decode cX0_mostInside 8 = .ok (.ireturn, 1) := by decide +kernel
theorem dX0_prepare_0 : decode cX0_prepare 0 = .ok (.iconst 0, 1) := by decide +kernel
theorem dX0_prepare_1 : decode cX0_prepare 1 = .ok (.istore_n 1, 1) := by decide +kernel
theorem dX0_prepare_2 : decode cX0_prepare 2 = .ok (.iload_n 1, 1) := by decide +kernel
theorem dX0_prepare_3 : decode cX0_prepare 3 = .ok (.aload_n 0, 1) := by decide +kernel
theorem dX0_prepare_4 : decode cX0_prepare 4 = .ok (.getfield 24, 3) := by decide +kernel
theorem dX0_prepare_7 : decode cX0_prepare 7 = .ok (.invokevirtual 28, 3) := by decide +kernel
theorem dX0_prepare_10 : decode cX0_prepare 10 = .ok (.if_icmp .gt 86, 3) := by decide +kernel
theorem dX0_prepare_13 : decode cX0_prepare 13 = .ok (.aload_n 0, 1) := by decide +kernel
theorem dX0_prepare_14 : decode cX0_prepare 14 = .ok (.getfield 11, 3) := by decide +kernel
theorem dX0_prepare_17 : decode cX0_prepare 17 = .ok (.iload_n 1, 1) := by decide +kernel
theorem dX0_prepare_18 : decode cX0_prepare 18 = .ok (.iconst 0, 1) := by decide +kernel
theorem dX0_prepare_19 : decode cX0_prepare 19 = .ok (.iastore, 1) := by decide +kernel
theorem dX0_prepare_20 : decode cX0_prepare 20 = .ok (.aload_n 0, 1) := by decide +kernel
theorem dX0_prepare_21 : decode cX0_prepare 21 = .ok (.getfield 15, 3) := by decide +kernel
theorem dX0_prepare_24 : decode cX0_prepare 24 = .ok (.iload_n 1, 1) := by decide +kernel
theorem dX0_prepare_25 : decode cX0_prepare 25 = .ok (.iload_n 1, 1) := by decide +kernel
theorem dX0_prepare_26 : decode cX0_prepare 26 = .ok (.invokestatic 34, 3) := by decide +kernel
theorem dX0_prepare_29 : decode cX0_prepare 29 = .ok (.iastore, 1) := by decide +kernel
theorem dX0_prepare_30 : decode cX0_prepare 30 = .ok (.iconst 0, 1) := by decide +kernel
theorem dX0_prepare_31 : decode cX0_prepare 31 = .ok (.istore_n 2, 1) := by decide +kernel
theorem dX0_prepare_32 : decode cX0_prepare 32 = .ok (.iload_n 2, 1) := by decide +kernel
theorem dX0_prepare_33 : decode cX0_prepare 33 = .ok (.aload_n 0, 1) := by decide +kernel
theorem dX0_prepare_34 : decode cX0_prepare 34 = .ok (.getfield 24, 3) := by decide +kernel
theorem dX0_prepare_37 : decode cX0_prepare 37 = .ok (.getfield 37, 3) := by decide +kernel
theorem dX0_prepare_40 : decode cX0_prepare 40 = .ok (.if_icmp .ge 50, 3) := by decide +kernel
theorem dX0_prepare_43 : decode cX0_prepare 43 = .ok (.iload_n 1, 1) := by decide +kernel
theorem dX0_prepare_44 : decode cX0_prepare 44 = .ok (.aload_n 0, 1) := by decide +kernel
theorem dX0_prepare_45 : decode cX0_prepare 45 = .ok (.getfield 24, 3) := by decide +kernel
theorem dX0_prepare_48 : decode cX0_prepare 48 = .ok (.getfield 41, 3) := by decide +kernel
theorem dX0_prepare_51 : decode cX0_prepare 51 = .ok (.iload_n 2, 1) := by decide +kernel
theorem dX0_prepare_52 : decode cX0_prepare 52 = .ok (.iaload, 1) := by decide +kernel
theorem dX0_prepare_53 : decode cX0_prepare 53 = .ok (.ishr, 1) := by decide +kernel
theorem dX0_prepare_54 : decode cX0_prepare 54 = .ok (.iload_n 1, 1) := by decide +kernel
theorem dX0_prepare_55 : decode cX0_prepare 55 = .ok (.aload_n 0, 1) := by decide +kernel
theorem dX0_prepare_56 : decode cX0_prepare 56 = .ok (.getfield 24, 3) := by decide +kernel
theorem dX0_prepare_59 : decode cX0_prepare 59 = .ok (.getfield 44, 3) := by decide +kernel
theorem dX0_prepare_62 : decode cX0_prepare 62 = .ok (.iload_n 2, 1) := by decide +kernel
theorem dX0_prepare_63 : decode cX0_prepare 63 = .ok (.iaload, 1) := by decide +kernel
theorem dX0_prepare_64 : decode cX0_prepare 64 = .ok (.ishr, 1) := by decide +kernel
theorem dX0_prepare_65 : decode cX0_prepare 65 = .ok (.iand, 1) := by decide +kernel
theorem dX0_prepare_66 : decode cX0_prepare 66 = .ok (.iconst 1, 1) := by decide +kernel
theorem dX0_prepare_67 : decode cX0_prepare 67 = .ok (.iand, 1) := by decide +kernel
theorem dX0_prepare_68 : decode cX0_prepare 68 = .ok (.iconst 1, 1) := by decide +kernel
theorem dX0_prepare_69 : decode cX0_prepare 69 = .ok (.if_icmp .ne 15, 3) := by decide +kernel
theorem dX0_prepare_72 : decode cX0_prepare 72 = .ok (.aload_n 0, 1) := by decide +kernel
theorem dX0_prepare_73 : decode cX0_prepare 73 = .ok (.getfield 11, 3) := by decide +kernel
theorem dX0_prepare_76 : decode cX0_prepare 76 = .ok (.iload_n 1, 1) := by decide +kernel
theorem dX0_prepare_77 : decode cX0_prepare 77 = .ok (.dup2, 1) := by decide +kernel
theorem dX0_prepare_78 : decode cX0_prepare 78 = .ok (.iaload, 1) := by decide +kernel
theorem dX0_prepare_79 : decode cX0_prepare 79 = .ok (.iconst 1, 1) := by decide +kernel
theorem dX0_prepare_80 : decode cX0_prepare 80 = .ok (.iload_n 2, 1) := by decide +kernel
theorem dX0_prepare_81 : decode cX0_prepare 81 = .ok (.ishl, 1) := by decide +kernel
theorem dX0_prepare_82 : decode cX0_prepare 82 = .ok (.ior, 1) := by decide +kernel
theorem dX0_prepare_83 : decode cX0_prepare 83 = .ok (.iastore, 1) := by decide +kernel
theorem dX0_prepare_84 : decode cX0_prepare 84 = .ok (.iinc 2 1, 3) := by decide +kernel
theorem dX0_prepare_87 : decode cX0_prepare 87 = .ok (.goto (-55), 3) := by decide +kernel
theorem dX0_prepare_90 : decode cX0_prepare 90 = .ok (.iinc 1 1, 3) := by decide +kernel
theorem dX0_prepare_93 : decode cX0_prepare 93 = .ok (.goto (-91), 3) := by decide +kernel
theorem dX0_prepare_96 : decode cX0_prepare 96 = .ok (.return_, 1) := by decide +kernel
theorem dX0_raises_0 : decode cX0_raises 0 = .ok (.aload_n 0, 1) := by decide +kernel
theorem dX0_raises_1 : decode cX0_raises 1 = .ok (.getfield 24, 3) := by decide +kernel
theorem dX0_raises_4 : decode cX0_raises 4 = .ok (.invokevirtual 28, 3) := by decide +kernel
theorem dX0_raises_7 : decode cX0_raises 7 = .ok (.istore 4, 2) := by decide +kernel
theorem dX0_raises_9 : decode cX0_raises 9 = .ok (.iconst 1, 1) := by decide +kernel
theorem dX0_raises_10 : decode cX0_raises 10 = .ok (.aload_n 0, 1) := by decide +kernel
theorem dX0_raises_11 : decode cX0_raises 11 = .ok (.getfield 24, 3) := by decide +kernel
theorem dX0_raises_14 : decode cX0_raises 14 = .ok (.getfield 41, 3) := by decide +kernel
theorem dX0_raises_17 : decode cX0_raises 17 = .ok (.iload_n 3, 1) := by decide +kernel
theorem dX0_raises_18 : decode cX0_raises 18 = .ok (.iaload, 1) := by decide +kernel
theorem dX0_raises_19 : decode cX0_raises 19 = .ok (.ishl, 1) := by decide +kernel
theorem dX0_raises_20 : decode cX0_raises 20 = .ok (.iconst 1, 1) := by decide +kernel
theorem dX0_raises_21 : decode cX0_raises 21 = .ok (.aload_n 0, 1) := by decide +kernel
theorem dX0_raises_22 : decode cX0_raises 22 = .ok (.getfield 24, 3) := by decide +kernel
theorem dX0_raises_25 : decode cX0_raises 25 = .ok (.getfield 44, 3) := by decide +kernel
theorem dX0_raises_28 : decode cX0_raises 28 = .ok (.iload_n 3, 1) := by decide +kernel
theorem dX0_raises_29 : decode cX0_raises 29 = .ok (.iaload, 1) := by decide +kernel
theorem dX0_raises_30 : decode cX0_raises 30 = .ok (.ishl, 1) := by decide +kernel
theorem dX0_raises_31 : decode cX0_raises 31 = .ok (.ior, 1) := by decide +kernel
theorem dX0_raises_32 : decode cX0_raises 32 = .ok (.istore 5, 2) := by decide +kernel
theorem dX0_raises_34 : decode cX0_raises 34 = .ok (.iload_n 1, 1) := by decide +kernel
theorem dX0_raises_35 : decode cX0_raises 35 = .ok (.sipush 128, 3) := by decide +kernel
theorem dX0_raises_38 : decode cX0_raises 38 = .ok (.imul, 1) := by decide +kernel
theorem dX0_raises_39 : decode cX0_raises 39 = .ok (.istore 6, 2) := by decide +kernel
theorem dX0_raises_41 : decode cX0_raises 41 = .ok (.iload 5, 2) := by decide +kernel
theorem dX0_raises_43 : decode cX0_raises 43 = .ok (.istore 7, 2) := by decide +kernel
theorem dX0_raises_45 : decode cX0_raises 45 = .ok (.iload 7, 2) := by decide +kernel
theorem dX0_raises_47 : decode cX0_raises 47 = .ok (.iload 4, 2) := by decide +kernel
theorem dX0_raises_49 : decode cX0_raises 49 = .ok (.if_icmp .gt 30, 3) := by decide +kernel
theorem dX0_raises_52 : decode cX0_raises 52 = .ok (.aload_n 0, 1) := by decide +kernel
theorem dX0_raises_53 : decode cX0_raises 53 = .ok (.getfield 15, 3) := by decide +kernel
theorem dX0_raises_56 : decode cX0_raises 56 = .ok (.iload 6, 2) := by decide +kernel
theorem dX0_raises_58 : decode cX0_raises 58 = .ok (.iload 7, 2) := by decide +kernel
theorem dX0_raises_60 : decode cX0_raises 60 = .ok (.iadd, 1) := by decide +kernel
theorem dX0_raises_61 : decode cX0_raises 61 = .ok (.iaload, 1) := by decide +kernel
theorem dX0_raises_62 : decode cX0_raises 62 = .ok (.ifCond .ne 5, 3) := by decide +kernel
theorem dX0_raises_65 : decode cX0_raises 65 = .ok (.iconst 0, 1) := by decide +kernel
theorem dX0_raises_66 : decode cX0_raises 66 = .ok (.ireturn, 1) := by decide +kernel
theorem dX0_raises_67 : decode cX0_raises 67 = .ok (.iload 7, 2) := by decide +kernel
theorem dX0_raises_69 : decode cX0_raises 69 = .ok (.iconst 1, 1) := by decide +kernel
theorem dX0_raises_70 : decode cX0_raises 70 = .ok (.iadd, 1) := by decide +kernel
theorem dX0_raises_71 : decode cX0_raises 71 = .ok (.iload 5, 2) := by decide +kernel
theorem dX0_raises_73 : decode cX0_raises 73 = .ok (.ior, 1) := by decide +kernel
theorem dX0_raises_74 : decode cX0_raises 74 = .ok (.istore 7, 2) := by decide +kernel
theorem dX0_raises_76 : decode cX0_raises 76 = .ok (.goto (-31), 3) := by decide +kernel
theorem dX0_raises_79 : decode cX0_raises 79 = .ok (.iload_n 3, 1) := by decide +kernel
theorem dX0_raises_80 : decode cX0_raises 80 = .ok (.iconst 1, 1) := by decide +kernel
theorem dX0_raises_81 : decode cX0_raises 81 = .ok (.iadd, 1) := by decide +kernel
theorem dX0_raises_82 : decode cX0_raises 82 = .ok (.aload_n 0, 1) := by decide +kernel
theorem dX0_raises_83 : decode cX0_raises 83 = .ok (.getfield 24, 3) := by decide +kernel
theorem dX0_raises_86 : decode cX0_raises 86 = .ok (.getfield 37, 3) := by decide +kernel
theorem dX0_raises_89 : decode cX0_raises 89 = .ok (.if_icmp .ge 66, 3) := by decide +kernel
theorem dX0_raises_92 : decode cX0_raises 92 = .ok (.aload_n 0, 1) := by decide +kernel
theorem dX0_raises_93 : decode cX0_raises 93 = .ok (.getfield 15, 3) := by decide +kernel
theorem dX0_raises_96 : decode cX0_raises 96 = .ok (.iload 6, 2) := by decide +kernel
theorem dX0_raises_98 : decode cX0_raises 98 = .ok (.aload_n 0, 1) := by decide +kernel
theorem dX0_raises_99 : decode cX0_raises 99 = .ok (.getfield 15, 3) := by decide +kernel
theorem dX0_raises_102 : decode cX0_raises 102 = .ok (.iload 6, 2) := by decide +kernel
theorem dX0_raises_104 : decode cX0_raises 104 = .ok (.sipush 128, 3) := by decide +kernel
theorem dX0_raises_107 : decode cX0_raises 107 = .ok (.iadd, 1) := by decide +kernel
theorem dX0_raises_108 : decode cX0_raises 108 = .ok (.sipush 128, 3) := by decide +kernel
theorem dX0_raises_111 : decode cX0_raises 111 = .ok (.invokestatic 47, 3) := by decide +kernel
theorem dX0_raises_114 : decode cX0_raises 114 = .ok (.iload 5, 2) := by decide +kernel
theorem dX0_raises_116 : decode cX0_raises 116 = .ok (.istore 7, 2) := by decide +kernel
theorem dX0_raises_118 : decode cX0_raises 118 = .ok (.iload 7, 2) := by decide +kernel
theorem dX0_raises_120 : decode cX0_raises 120 = .ok (.iload 4, 2) := by decide +kernel
theorem dX0_raises_122 : decode cX0_raises 122 = .ok (.if_icmp .gt 33, 3) := by decide +kernel
theorem dX0_raises_125 : decode cX0_raises 125 = .ok (.aload_n 0, 1) := by decide +kernel
theorem dX0_raises_126 : decode cX0_raises 126 = .ok (.getfield 15, 3) := by decide +kernel
theorem dX0_raises_129 : decode cX0_raises 129 = .ok (.iload 6, 2) := by decide +kernel
theorem dX0_raises_131 : decode cX0_raises 131 = .ok (.sipush 128, 3) := by decide +kernel
theorem dX0_raises_134 : decode cX0_raises 134 = .ok (.iadd, 1) := by decide +kernel
theorem dX0_raises_135 : decode cX0_raises 135 = .ok (.iload 7, 2) := by decide +kernel
theorem dX0_raises_137 : decode cX0_raises 137 = .ok (.iadd, 1) := by decide +kernel
theorem dX0_raises_138 : decode cX0_raises 138 = .ok (.dup2, 1) := by decide +kernel
theorem dX0_raises_139 : decode cX0_raises 139 = .ok (.iaload, 1) := by decide +kernel
theorem dX0_raises_140 : decode cX0_raises 140 = .ok (.iconst 1, 1) := by decide +kernel
theorem dX0_raises_141 : decode cX0_raises 141 = .ok (.isub, 1) := by decide +kernel
theorem dX0_raises_142 : decode cX0_raises 142 = .ok (.iastore, 1) := by decide +kernel
theorem dX0_raises_143 : decode cX0_raises 143 = .ok (.iload 7, 2) := by decide +kernel
theorem dX0_raises_145 : decode cX0_raises 145 = .ok (.iconst 1, 1) := by decide +kernel
theorem dX0_raises_146 : decode cX0_raises 146 = .ok (.iadd, 1) := by decide +kernel
theorem dX0_raises_147 : decode cX0_raises 147 = .ok (.iload 5, 2) := by decide +kernel
theorem dX0_raises_149 : decode cX0_raises 149 = .ok (.ior, 1) := by decide +kernel
theorem dX0_raises_150 : decode cX0_raises 150 = .ok (.istore 7, 2) := by decide +kernel
theorem dX0_raises_152 : decode cX0_raises 152 = .ok (.goto (-34), 3) := by decide +kernel
theorem dX0_raises_155 : decode cX0_raises 155 = .ok (.iconst 1, 1) := by decide +kernel
theorem dX0_raises_156 : decode cX0_raises 156 = .ok (.ireturn, 1) := by decide +kernel
theorem dX0_link_0 : decode cX0_link 0 = .ok (.aload_n 0, 1) := by decide +kernel
theorem dX0_link_1 : decode cX0_link 1 = .ok (.getfield 53, 3) := by decide +kernel
theorem dX0_link_4 : decode cX0_link 4 = .ok (.iconst 0, 1) := by decide +kernel
theorem dX0_link_5 : decode cX0_link 5 = .ok (.invokestatic 56, 3) := by decide +kernel
theorem dX0_link_8 : decode cX0_link 8 = .ok (.iconst 0, 1) := by decide +kernel
theorem dX0_link_9 : decode cX0_link 9 = .ok (.istore_n 2, 1) := by decide +kernel
theorem dX0_link_10 : decode cX0_link 10 = .ok (.iload_n 2, 1) := by decide +kernel
theorem dX0_link_11 : decode cX0_link 11 = .ok (.aload_n 0, 1) := by decide +kernel
theorem dX0_link_12 : decode cX0_link 12 = .ok (.getfield 24, 3) := by decide +kernel
theorem dX0_link_15 : decode cX0_link 15 = .ok (.invokevirtual 28, 3) := by decide +kernel
theorem dX0_link_18 : decode cX0_link 18 = .ok (.if_icmp .gt 37, 3) := by decide +kernel
theorem dX0_link_21 : decode cX0_link 21 = .ok (.aload_n 0, 1) := by decide +kernel
theorem dX0_link_22 : decode cX0_link 22 = .ok (.getfield 62, 3) := by decide +kernel
theorem dX0_link_25 : decode cX0_link 25 = .ok (.iload_n 1, 1) := by decide +kernel
theorem dX0_link_26 : decode cX0_link 26 = .ok (.iaload, 1) := by decide +kernel
theorem dX0_link_27 : decode cX0_link 27 = .ok (.aload_n 0, 1) := by decide +kernel
theorem dX0_link_28 : decode cX0_link 28 = .ok (.getfield 11, 3) := by decide +kernel
theorem dX0_link_31 : decode cX0_link 31 = .ok (.iload_n 2, 1) := by decide +kernel
theorem dX0_link_32 : decode cX0_link 32 = .ok (.iaload, 1) := by decide +kernel
theorem dX0_link_33 : decode cX0_link 33 = .ok (.iand, 1) := by decide +kernel
theorem dX0_link_34 : decode cX0_link 34 = .ok (.invokestatic 18, 3) := by decide +kernel
theorem dX0_link_37 : decode cX0_link 37 = .ok (.iload_n 2, 1) := by decide +kernel
theorem dX0_link_38 : decode cX0_link 38 = .ok (.invokestatic 34, 3) := by decide +kernel
theorem dX0_link_41 : decode cX0_link 41 = .ok (.if_icmp .ne 8, 3) := by decide +kernel
theorem dX0_link_44 : decode cX0_link 44 = .ok (.aload_n 0, 1) := by decide +kernel
theorem dX0_link_45 : decode cX0_link 45 = .ok (.iload_n 2, 1) := by decide +kernel
theorem dX0_link_46 : decode cX0_link 46 = .ok (.invokevirtual 65, 3) := by decide +kernel
theorem dX0_link_49 : decode cX0_link 49 = .ok (.iinc 2 1, 3) := by decide +kernel
theorem dX0_link_52 : decode cX0_link 52 = .ok (.goto (-42), 3) := by decide +kernel
theorem dX0_link_55 : decode cX0_link 55 = .ok (.return_, 1) := by decide +kernel
theorem dX0_linkAll_0 : decode cX0_linkAll 0 = .ok (.iconst 0, 1) := by decide +kernel
theorem dX0_linkAll_1 : decode cX0_linkAll 1 = .ok (.istore_n 2, 1) := by decide +kernel
theorem dX0_linkAll_2 : decode cX0_linkAll 2 = .ok (.iload_n 2, 1) := by decide +kernel
theorem dX0_linkAll_3 : decode cX0_linkAll 3 = .ok (.aload_n 0, 1) := by decide +kernel
theorem dX0_linkAll_4 : decode cX0_linkAll 4 = .ok (.getfield 24, 3) := by decide +kernel
theorem dX0_linkAll_7 : decode cX0_linkAll 7 = .ok (.getfield 69, 3) := by decide +kernel
theorem dX0_linkAll_10 : decode cX0_linkAll 10 = .ok (.if_icmp .ge 33, 3) := by decide +kernel
theorem dX0_linkAll_13 : decode cX0_linkAll 13 = .ok (.iconst 1, 1) := by decide +kernel
theorem dX0_linkAll_14 : decode cX0_linkAll 14 = .ok (.iload_n 2, 1) := by decide +kernel
theorem dX0_linkAll_15 : decode cX0_linkAll 15 = .ok (.ishl, 1) := by decide +kernel
theorem dX0_linkAll_16 : decode cX0_linkAll 16 = .ok (.istore_n 3, 1) := by decide +kernel
theorem dX0_linkAll_17 : decode cX0_linkAll 17 = .ok (.iload_n 1, 1) := by decide +kernel
theorem dX0_linkAll_18 : decode cX0_linkAll 18 = .ok (.iload_n 3, 1) := by decide +kernel
theorem dX0_linkAll_19 : decode cX0_linkAll 19 = .ok (.iand, 1) := by decide +kernel
theorem dX0_linkAll_20 : decode cX0_linkAll 20 = .ok (.ifCond .eq 17, 3) := by decide +kernel
theorem dX0_linkAll_23 : decode cX0_linkAll 23 = .ok (.aload_n 0, 1) := by decide +kernel
theorem dX0_linkAll_24 : decode cX0_linkAll 24 = .ok (.getfield 53, 3) := by decide +kernel
theorem dX0_linkAll_27 : decode cX0_linkAll 27 = .ok (.iload_n 2, 1) := by decide +kernel
theorem dX0_linkAll_28 : decode cX0_linkAll 28 = .ok (.dup2, 1) := by decide +kernel
theorem dX0_linkAll_29 : decode cX0_linkAll 29 = .ok (.iaload, 1) := by decide +kernel
theorem dX0_linkAll_30 : decode cX0_linkAll 30 = .ok (.iload_n 1, 1) := by decide +kernel
theorem dX0_linkAll_31 : decode cX0_linkAll 31 = .ok (.iload_n 3, 1) := by decide +kernel
theorem dX0_linkAll_32 : decode cX0_linkAll 32 = .ok (.iconst (-1), 1) := by decide +kernel
theorem dX0_linkAll_33 : decode cX0_linkAll 33 = .ok (.ixor, 1) := by decide +kernel
theorem dX0_linkAll_34 : decode cX0_linkAll 34 = .ok (.iand, 1) := by decide +kernel
theorem dX0_linkAll_35 : decode cX0_linkAll 35 = .ok (.ior, 1) := by decide +kernel
theorem dX0_linkAll_36 : decode cX0_linkAll 36 = .ok (.iastore, 1) := by decide +kernel
theorem dX0_linkAll_37 : decode cX0_linkAll 37 = .ok (.iinc 2 1, 3) := by decide +kernel
theorem dX0_linkAll_40 : decode cX0_linkAll 40 = .ok (.goto (-38), 3) := by decide +kernel
theorem dX0_linkAll_43 : decode cX0_linkAll 43 = .ok (.return_, 1) := by decide +kernel
theorem dX0_lacking_0 : decode cX0_lacking 0 = .ok (.aload_n 0, 1) := by decide +kernel
theorem dX0_lacking_1 : decode cX0_lacking 1 = .ok (.getfield 24, 3) := by decide +kernel
theorem dX0_lacking_4 : decode cX0_lacking 4 = .ok (.getfield 69, 3) := by decide +kernel
theorem dX0_lacking_7 : decode cX0_lacking 7 = .ok (.iconst 1, 1) := by decide +kernel
theorem dX0_lacking_8 : decode cX0_lacking 8 = .ok (.if_icmp .ne 7, 3) := by decide +kernel
theorem dX0_lacking_11 : decode cX0_lacking 11 = .ok (.iconst 0, 1) := by decide +kernel
theorem dX0_lacking_12 : decode cX0_lacking 12 = .ok (.goto 25, 3) := by decide +kernel
theorem dX0_lacking_15 : decode cX0_lacking 15 = .ok (.aload_n 0, 1) := by decide +kernel
theorem dX0_lacking_16 : decode cX0_lacking 16 = .ok (.getfield 24, 3) := by decide +kernel
theorem dX0_lacking_19 : decode cX0_lacking 19 = .ok (.invokevirtual 28, 3) := by decide +kernel
theorem dX0_lacking_22 : decode cX0_lacking 22 = .ok (.invokestatic 34, 3) := by decide +kernel
theorem dX0_lacking_25 : decode cX0_lacking 25 = .ok (.aload_n 0, 1) := by decide +kernel
theorem dX0_lacking_26 : decode cX0_lacking 26 = .ok (.aload_n 0, 1) := by decide +kernel
theorem dX0_lacking_27 : decode cX0_lacking 27 = .ok (.getfield 24, 3) := by decide +kernel
theorem dX0_lacking_30 : decode cX0_lacking 30 = .ok (.invokevirtual 72, 3) := by decide +kernel
theorem dX0_lacking_33 : decode cX0_lacking 33 = .ok (.invokevirtual 75, 3) := by decide +kernel
theorem dX0_lacking_36 : decode cX0_lacking 36 = .ok (.isub, 1) := by decide +kernel
theorem dX0_lacking_37 : decode cX0_lacking 37 = .ok (.ireturn, 1) := by decide +kernel
theorem dX1_init_0 : decode cX1_init 0 = .ok (.aload_n 0, 1) := by decide +kernel
theorem dX1_init_1 : decode cX1_init 1 = .ok (.invokespecial 3, 3) := by decide +kernel
theorem dX1_init_4 : decode cX1_init 4 = .ok (.aload_n 0, 1) := by decide +kernel
theorem dX1_init_5 : decode cX1_init 5 = .ok (.bipush 21, 2) := by decide +kernel
theorem dX1_init_7 : decode cX1_init 7 = .ok (.newarray .int, 2) := by decide +kernel
theorem dX1_init_9 : decode cX1_init 9 = .ok (.putfield 9, 3) := by decide +kernel
theorem dX1_init_12 : decode cX1_init 12 = .ok (.aload_n 0, 1) := by decide +kernel
theorem dX1_init_13 : decode cX1_init 13 = .ok (.bipush 12, 2) := by decide +kernel
theorem dX1_init_15 : decode cX1_init 15 = .ok (.newarray .int, 2) := by decide +kernel
theorem dX1_init_17 : decode cX1_init 17 = .ok (.putfield 15, 3) := by decide +kernel
theorem dX1_init_20 : decode cX1_init 20 = .ok (.aload_n 0, 1) := by decide +kernel
theorem dX1_init_21 : decode cX1_init 21 = .ok (.bipush 12, 2) := by decide +kernel
theorem dX1_init_23 : decode cX1_init 23 = .ok (.newarray .int, 2) := by decide +kernel
theorem dX1_init_25 : decode cX1_init 25 = .ok (.putfield 18, 3) := by decide +kernel
theorem dX1_init_28 : decode cX1_init 28 = .ok (.aload_n 0, 1) := by decide +kernel
theorem dX1_init_29 : decode cX1_init 29 = .ok (.bipush 12, 2) := by decide +kernel
theorem dX1_init_31 : decode cX1_init 31 = .ok (.newarray .int, 2) := by decide +kernel
theorem dX1_init_33 : decode cX1_init 33 = .ok (.putfield 21, 3) := by decide +kernel
theorem dX1_init_36 : decode cX1_init 36 = .ok (.aload_n 0, 1) := by decide +kernel
theorem dX1_init_37 : decode cX1_init 37 = .ok (.iconst 1, 1) := by decide +kernel
theorem dX1_init_38 : decode cX1_init 38 = .ok (.putfield 24, 3) := by decide +kernel
theorem dX1_init_41 : decode cX1_init 41 = .ok (.aload_n 0, 1) := by decide +kernel
theorem dX1_init_42 : decode cX1_init 42 = .ok (.iconst 0, 1) := by decide +kernel
theorem dX1_init_43 : decode cX1_init 43 = .ok (.putfield 28, 3) := by decide +kernel
theorem dX1_init_46 : decode cX1_init 46 = .ok (.aload_n 0, 1) := by decide +kernel
theorem dX1_init_47 : decode cX1_init 47 = .ok (.iconst 1, 1) := by decide +kernel
theorem dX1_init_48 : decode cX1_init 48 = .ok (.putfield 31, 3) := by decide +kernel
theorem dX1_init_51 : decode cX1_init 51 = .ok (.return_, 1) := by decide +kernel
theorem dX1_restart_0 : decode cX1_restart 0 = .ok (.aload_n 0, 1) := by decide +kernel
theorem dX1_restart_1 : decode cX1_restart 1 = .ok (.iload_n 1, 1) := by decide +kernel
theorem dX1_restart_2 : decode cX1_restart 2 = .ok (.putfield 24, 3) := by decide +kernel
theorem dX1_restart_5 : decode cX1_restart 5 = .ok (.aload_n 0, 1) := by decide +kernel
theorem dX1_restart_6 : decode cX1_restart 6 = .ok (.iconst 0, 1) := by decide +kernel
theorem dX1_restart_7 : decode cX1_restart 7 = .ok (.putfield 28, 3) := by decide +kernel
theorem dX1_restart_10 : decode cX1_restart 10 = .ok (.aload_n 0, 1) := by decide +kernel
theorem dX1_restart_11 : decode cX1_restart 11 = .ok (.getfield 9, 3) := by decide +kernel
theorem dX1_restart_14 : decode cX1_restart 14 = .ok (.iconst 0, 1) := by decide +kernel
theorem dX1_restart_15 : decode cX1_restart 15 = .ok (.invokestatic 34, 3) := by decide +kernel
theorem dX1_restart_18 : decode cX1_restart 18 = .ok (.aload_n 0, 1) := by decide +kernel
theorem dX1_restart_19 : decode cX1_restart 19 = .ok (.dup, 1) := by decide +kernel
theorem dX1_restart_20 : decode cX1_restart 20 = .ok (.getfield 31, 3) := by decide +kernel
theorem dX1_restart_23 : decode cX1_restart 23 = .ok (.iconst 1, 1) := by decide +kernel
theorem dX1_restart_24 : decode cX1_restart 24 = .ok (.iadd, 1) := by decide +kernel
theorem dX1_restart_25 : decode cX1_restart 25 = .ok (.putfield 31, 3) := by decide +kernel
theorem dX1_restart_28 : decode cX1_restart 28 = .ok (.return_, 1) := by decide +kernel
theorem dX1_hasJoint_0 : decode cX1_hasJoint 0 = .ok (.iload_n 1, 1) := by decide +kernel
theorem dX1_hasJoint_1 : decode cX1_hasJoint 1 = .ok (.ifCond .lt 15, 3) := by decide +kernel
theorem dX1_hasJoint_4 : decode cX1_hasJoint 4 = .ok (.iload_n 1, 1) := by decide +kernel
theorem dX1_hasJoint_5 : decode cX1_hasJoint 5 = .ok (.aload_n 0, 1) := by decide +kernel
theorem dX1_hasJoint_6 : decode cX1_hasJoint 6 = .ok (.getfield 24, 3) := by decide +kernel
theorem dX1_hasJoint_9 : decode cX1_hasJoint 9 = .ok (.if_icmp .ge 7, 3) := by decide +kernel
theorem dX1_hasJoint_12 : decode cX1_hasJoint 12 = .ok (.iconst 1, 1) := by decide +kernel
theorem dX1_hasJoint_13 : decode cX1_hasJoint 13 = .ok (.goto 4, 3) := by decide +kernel
theorem dX1_hasJoint_16 : decode cX1_hasJoint 16 = .ok (.iconst 0, 1) := by decide +kernel
theorem dX1_hasJoint_17 : decode cX1_hasJoint 17 = .ok (.ireturn, 1) := by decide +kernel
theorem dX1_hasBar_0 : decode cX1_hasBar 0 = .ok (.iload_n 1, 1) := by decide +kernel
theorem dX1_hasBar_1 : decode cX1_hasBar 1 = .ok (.ifCond .lt 15, 3) := by decide +kernel
theorem dX1_hasBar_4 : decode cX1_hasBar 4 = .ok (.iload_n 1, 1) := by decide +kernel
theorem dX1_hasBar_5 : decode cX1_hasBar 5 = .ok (.aload_n 0, 1) := by decide +kernel
theorem dX1_hasBar_6 : decode cX1_hasBar 6 = .ok (.getfield 28, 3) := by decide +kernel
theorem dX1_hasBar_9 : decode cX1_hasBar 9 = .ok (.if_icmp .ge 7, 3) := by decide +kernel
theorem dX1_hasBar_12 : decode cX1_hasBar 12 = .ok (.iconst 1, 1) := by decide +kernel
theorem dX1_hasBar_13 : decode cX1_hasBar 13 = .ok (.goto 4, 3) := by decide +kernel
theorem dX1_hasBar_16 : decode cX1_hasBar 16 = .ok (.iconst 0, 1) := by decide +kernel
theorem dX1_hasBar_17 : decode cX1_hasBar 17 = .ok (.ireturn, 1) := by decide +kernel
theorem dX1_hasSet_0 : decode cX1_hasSet 0 = .ok (.iload_n 1, 1) := by decide +kernel
theorem dX1_hasSet_1 : decode cX1_hasSet 1 = .ok (.ifCond .lt 15, 3) := by decide +kernel
theorem dX1_hasSet_4 : decode cX1_hasSet 4 = .ok (.iload_n 1, 1) := by decide +kernel
theorem dX1_hasSet_5 : decode cX1_hasSet 5 = .ok (.aload_n 0, 1) := by decide +kernel
theorem dX1_hasSet_6 : decode cX1_hasSet 6 = .ok (.invokevirtual 40, 3) := by decide +kernel
theorem dX1_hasSet_9 : decode cX1_hasSet 9 = .ok (.if_icmp .gt 7, 3) := by decide +kernel
theorem dX1_hasSet_12 : decode cX1_hasSet 12 = .ok (.iconst 1, 1) := by decide +kernel
theorem dX1_hasSet_13 : decode cX1_hasSet 13 = .ok (.goto 4, 3) := by decide +kernel
theorem dX1_hasSet_16 : decode cX1_hasSet 16 = .ok (.iconst 0, 1) := by decide +kernel
theorem dX1_hasSet_17 : decode cX1_hasSet 17 = .ok (.ireturn, 1) := by decide +kernel
theorem dX1_allBars_0 : decode cX1_allBars 0 = .ok (.iconst 1, 1) := by decide +kernel
theorem dX1_allBars_1 : decode cX1_allBars 1 = .ok (.aload_n 0, 1) := by decide +kernel
theorem dX1_allBars_2 : decode cX1_allBars 2 = .ok (.getfield 28, 3) := by decide +kernel
theorem dX1_allBars_5 : decode cX1_allBars 5 = .ok (.ishl, 1) := by decide +kernel
theorem dX1_allBars_6 : decode cX1_allBars 6 = .ok (.iconst 1, 1) := by decide +kernel
theorem dX1_allBars_7 : decode cX1_allBars 7 = .ok (.isub, 1) := by decide +kernel
theorem dX1_allBars_8 : decode cX1_allBars 8 = .ok (.ireturn, 1) := by decide +kernel
theorem dX1_allJoints_0 : decode cX1_allJoints 0 = .ok (.iconst 1, 1) := by decide +kernel
theorem dX1_allJoints_1 : decode cX1_allJoints 1 = .ok (.aload_n 0, 1) := by decide +kernel
theorem dX1_allJoints_2 : decode cX1_allJoints 2 = .ok (.getfield 24, 3) := by decide +kernel
theorem dX1_allJoints_5 : decode cX1_allJoints 5 = .ok (.ishl, 1) := by decide +kernel
theorem dX1_allJoints_6 : decode cX1_allJoints 6 = .ok (.iconst 1, 1) := by decide +kernel
theorem dX1_allJoints_7 : decode cX1_allJoints 7 = .ok (.isub, 1) := by decide +kernel
theorem dX1_allJoints_8 : decode cX1_allJoints 8 = .ok (.ireturn, 1) := by decide +kernel
theorem dX1_move_0 : decode cX1_move 0 = .ok (.iload_n 1, 1) := by decide +kernel
theorem dX1_move_1 : decode cX1_move 1 = .ok (.iconst 3, 1) := by decide +kernel
theorem dX1_move_2 : decode cX1_move 2 = .ok (.imul, 1) := by decide +kernel
theorem dX1_move_3 : decode cX1_move 3 = .ok (.istore 5, 2) := by decide +kernel
theorem dX1_move_5 : decode cX1_move 5 = .ok (.aload_n 0, 1) := by decide +kernel
theorem dX1_move_6 : decode cX1_move 6 = .ok (.getfield 9, 3) := by decide +kernel
theorem dX1_move_9 : decode cX1_move 9 = .ok (.iload 5, 2) := by decide +kernel
theorem dX1_move_11 : decode cX1_move 11 = .ok (.iaload, 1) := by decide +kernel
theorem dX1_move_12 : decode cX1_move 12 = .ok (.iload_n 2, 1) := by decide +kernel
theorem dX1_move_13 : decode cX1_move 13 = .ok (.if_icmp .ne 32, 3) := by decide +kernel
theorem dX1_move_16 : decode cX1_move 16 = .ok (.aload_n 0, 1) := by decide +kernel
theorem dX1_move_17 : decode cX1_move 17 = .ok (.getfield 9, 3) := by decide +kernel
theorem dX1_move_20 : decode cX1_move 20 = .ok (.iload 5, 2) := by decide +kernel
theorem dX1_move_22 : decode cX1_move 22 = .ok (.iconst 1, 1) := by decide +kernel
theorem dX1_move_23 : decode cX1_move 23 = .ok (.iadd, 1) := by decide +kernel
theorem dX1_move_24 : decode cX1_move 24 = .ok (.iaload, 1) := by decide +kernel
theorem dX1_move_25 : decode cX1_move 25 = .ok (.iload_n 3, 1) := by decide +kernel
theorem dX1_move_26 : decode cX1_move 26 = .ok (.if_icmp .ne 19, 3) := by decide +kernel
theorem dX1_move_29 : decode cX1_move 29 = .ok (.aload_n 0, 1) := by decide +kernel
theorem dX1_move_30 : decode cX1_move 30 = .ok (.getfield 9, 3) := by decide +kernel
theorem dX1_move_33 : decode cX1_move 33 = .ok (.iload 5, 2) := by decide +kernel
theorem dX1_move_35 : decode cX1_move 35 = .ok (.iconst 2, 1) := by decide +kernel
theorem dX1_move_36 : decode cX1_move 36 = .ok (.iadd, 1) := by decide +kernel
theorem dX1_move_37 : decode cX1_move 37 = .ok (.iaload, 1) := by decide +kernel
theorem dX1_move_38 : decode cX1_move 38 = .ok (.iload 4, 2) := by decide +kernel
theorem dX1_move_40 : decode cX1_move 40 = .ok (.if_icmp .ne 5, 3) := by decide +kernel
theorem dX1_move_43 : decode cX1_move 43 = .ok (.iconst 0, 1) := by decide +kernel
theorem dX1_move_44 : decode cX1_move 44 = .ok (.ireturn, 1) := by decide +kernel
theorem dX1_move_45 : decode cX1_move 45 = .ok (.aload_n 0, 1) := by decide +kernel
theorem dX1_move_46 : decode cX1_move 46 = .ok (.getfield 9, 3) := by decide +kernel
theorem dX1_move_49 : decode cX1_move 49 = .ok (.iload 5, 2) := by decide +kernel
theorem dX1_move_51 : decode cX1_move 51 = .ok (.iload_n 2, 1) := by decide +kernel
theorem dX1_move_52 : decode cX1_move 52 = .ok (.iastore, 1) := by decide +kernel
theorem dX1_move_53 : decode cX1_move 53 = .ok (.aload_n 0, 1) := by decide +kernel
theorem dX1_move_54 : decode cX1_move 54 = .ok (.getfield 9, 3) := by decide +kernel
theorem dX1_move_57 : decode cX1_move 57 = .ok (.iload 5, 2) := by decide +kernel
theorem dX1_move_59 : decode cX1_move 59 = .ok (.iconst 1, 1) := by decide +kernel
theorem dX1_move_60 : decode cX1_move 60 = .ok (.iadd, 1) := by decide +kernel
theorem dX1_move_61 : decode cX1_move 61 = .ok (.iload_n 3, 1) := by decide +kernel
theorem dX1_move_62 : decode cX1_move 62 = .ok (.iastore, 1) := by decide +kernel
theorem dX1_move_63 : decode cX1_move 63 = .ok (.aload_n 0, 1) := by decide +kernel
theorem dX1_move_64 : decode cX1_move 64 = .ok (.getfield 9, 3) := by decide +kernel
theorem dX1_move_67 : decode cX1_move 67 = .ok (.iload 5, 2) := by decide +kernel
theorem dX1_move_69 : decode cX1_move 69 = .ok (.iconst 2, 1) := by decide +kernel
theorem dX1_move_70 : decode cX1_move 70 = .ok (.iadd, 1) := by decide +kernel
theorem dX1_move_71 : decode cX1_move 71 = .ok (.iload 4, 2) := by decide +kernel
theorem dX1_move_73 : decode cX1_move 73 = .ok (.iastore, 1) := by decide +kernel
theorem dX1_move_74 : decode cX1_move 74 = .ok (.aload_n 0, 1) := by decide +kernel
theorem dX1_move_75 : decode cX1_move 75 = .ok (.dup, 1) := by decide +kernel
theorem dX1_move_76 : decode cX1_move 76 = .ok (.getfield 31, 3) := by decide +kernel
theorem dX1_move_79 : decode cX1_move 79 = .ok (.iconst 1, 1) := by decide +kernel
theorem dX1_move_80 : decode cX1_move 80 = .ok (.iadd, 1) := by decide +kernel
theorem dX1_move_81 : decode cX1_move 81 = .ok (.putfield 31, 3) := by decide +kernel
theorem dX1_move_84 : decode cX1_move 84 = .ok (.iconst 1, 1) := by decide +kernel
theorem dX1_move_85 : decode cX1_move 85 = .ok (.ireturn, 1) := by decide +kernel
theorem dX1_isJoined_0 : decode cX1_isJoined 0 = .ok (.aload_n 0, 1) := by decide +kernel
theorem dX1_isJoined_1 : decode cX1_isJoined 1 = .ok (.iload_n 1, 1) := by decide +kernel
theorem dX1_isJoined_2 : decode cX1_isJoined 2 = .ok (.invokevirtual 44, 3) := by decide +kernel
theorem dX1_isJoined_5 : decode cX1_isJoined 5 = .ok (.iload_n 2, 1) := by decide +kernel
theorem dX1_isJoined_6 : decode cX1_isJoined 6 = .ok (.ishr, 1) := by decide +kernel
theorem dX1_isJoined_7 : decode cX1_isJoined 7 = .ok (.iconst 1, 1) := by decide +kernel
theorem dX1_isJoined_8 : decode cX1_isJoined 8 = .ok (.iand, 1) := by decide +kernel
theorem dX1_isJoined_9 : decode cX1_isJoined 9 = .ok (.iconst 1, 1) := by decide +kernel
theorem dX1_isJoined_10 : decode cX1_isJoined 10 = .ok (.if_icmp .ne 7, 3) := by decide +kernel
theorem dX1_isJoined_13 : decode cX1_isJoined 13 = .ok (.iconst 1, 1) := by decide +kernel
theorem dX1_isJoined_14 : decode cX1_isJoined 14 = .ok (.goto 4, 3) := by decide +kernel
theorem dX1_isJoined_17 : decode cX1_isJoined 17 = .ok (.iconst 0, 1) := by decide +kernel
theorem dX1_isJoined_18 : decode cX1_isJoined 18 = .ok (.ireturn, 1) := by decide +kernel
theorem dX1_join_0 : decode cX1_join 0 = .ok (.aload_n 0, 1) := by decide +kernel
theorem dX1_join_1 : decode cX1_join 1 = .ok (.getfield 28, 3) := by decide +kernel
theorem dX1_join_4 : decode cX1_join 4 = .ok (.istore_n 3, 1) := by decide +kernel
theorem dX1_join_5 : decode cX1_join 5 = .ok (.aload_n 0, 1) := by decide +kernel
theorem dX1_join_6 : decode cX1_join 6 = .ok (.getfield 15, 3) := by decide +kernel
theorem dX1_join_9 : decode cX1_join 9 = .ok (.iload_n 3, 1) := by decide +kernel
theorem dX1_join_10 : decode cX1_join 10 = .ok (.iload_n 1, 1) := by decide +kernel
theorem dX1_join_11 : decode cX1_join 11 = .ok (.iload_n 2, 1) := by decide +kernel
theorem dX1_join_12 : decode cX1_join 12 = .ok (.invokestatic 48, 3) := by decide +kernel
theorem dX1_join_15 : decode cX1_join 15 = .ok (.iastore, 1) := by decide +kernel
theorem dX1_join_16 : decode cX1_join 16 = .ok (.aload_n 0, 1) := by decide +kernel
theorem dX1_join_17 : decode cX1_join 17 = .ok (.getfield 18, 3) := by decide +kernel
theorem dX1_join_20 : decode cX1_join 20 = .ok (.iload_n 3, 1) := by decide +kernel
theorem dX1_join_21 : decode cX1_join 21 = .ok (.iload_n 1, 1) := by decide +kernel
theorem dX1_join_22 : decode cX1_join 22 = .ok (.iload_n 2, 1) := by decide +kernel
theorem dX1_join_23 : decode cX1_join 23 = .ok (.invokestatic 54, 3) := by decide +kernel
theorem dX1_join_26 : decode cX1_join 26 = .ok (.iastore, 1) := by decide +kernel
theorem dX1_join_27 : decode cX1_join 27 = .ok (.aload_n 0, 1) := by decide +kernel
theorem dX1_join_28 : decode cX1_join 28 = .ok (.getfield 21, 3) := by decide +kernel
theorem dX1_join_31 : decode cX1_join 31 = .ok (.iload_n 3, 1) := by decide +kernel
theorem dX1_join_32 : decode cX1_join 32 = .ok (.iconst 0, 1) := by decide +kernel
theorem dX1_join_33 : decode cX1_join 33 = .ok (.iastore, 1) := by decide +kernel
theorem dX1_join_34 : decode cX1_join 34 = .ok (.aload_n 0, 1) := by decide +kernel
theorem dX1_join_35 : decode cX1_join 35 = .ok (.dup, 1) := by decide +kernel
theorem dX1_join_36 : decode cX1_join 36 = .ok (.getfield 28, 3) := by decide +kernel
theorem dX1_join_39 : decode cX1_join 39 = .ok (.iconst 1, 1) := by decide +kernel
theorem dX1_join_40 : decode cX1_join 40 = .ok (.iadd, 1) := by decide +kernel
theorem dX1_join_41 : decode cX1_join 41 = .ok (.putfield 28, 3) := by decide +kernel
theorem dX1_join_44 : decode cX1_join 44 = .ok (.aload_n 0, 1) := by decide +kernel
theorem dX1_join_45 : decode cX1_join 45 = .ok (.dup, 1) := by decide +kernel
theorem dX1_join_46 : decode cX1_join 46 = .ok (.getfield 31, 3) := by decide +kernel
theorem dX1_join_49 : decode cX1_join 49 = .ok (.iconst 1, 1) := by decide +kernel
theorem dX1_join_50 : decode cX1_join 50 = .ok (.iadd, 1) := by decide +kernel
theorem dX1_join_51 : decode cX1_join 51 = .ok (.putfield 31, 3) := by decide +kernel
theorem dX1_join_54 : decode cX1_join 54 = .ok (.iload_n 3, 1) := by decide +kernel
theorem dX1_join_55 : decode cX1_join 55 = .ok (.ireturn, 1) := by decide +kernel
theorem dX1_dropLast_0 : decode cX1_dropLast 0 = .ok (.aload_n 0, 1) := by decide +kernel
theorem dX1_dropLast_1 : decode cX1_dropLast 1 = .ok (.dup, 1) := by decide +kernel
theorem dX1_dropLast_2 : decode cX1_dropLast 2 = .ok (.getfield 28, 3) := by decide +kernel
theorem dX1_dropLast_5 : decode cX1_dropLast 5 = .ok (.iconst 1, 1) := by decide +kernel
theorem dX1_dropLast_6 : decode cX1_dropLast 6 = .ok (.isub, 1) := by decide +kernel
theorem dX1_dropLast_7 : decode cX1_dropLast 7 = .ok (.putfield 28, 3) := by decide +kernel
theorem dX1_dropLast_10 : decode cX1_dropLast 10 = .ok (.aload_n 0, 1) := by decide +kernel
theorem dX1_dropLast_11 : decode cX1_dropLast 11 = .ok (.dup, 1) := by decide +kernel
theorem dX1_dropLast_12 : decode cX1_dropLast 12 = .ok (.getfield 31, 3) := by decide +kernel
theorem dX1_dropLast_15 : decode cX1_dropLast 15 = .ok (.iconst 1, 1) := by decide +kernel
theorem dX1_dropLast_16 : decode cX1_dropLast 16 = .ok (.iadd, 1) := by decide +kernel
theorem dX1_dropLast_17 : decode cX1_dropLast 17 = .ok (.putfield 31, 3) := by decide +kernel
theorem dX1_dropLast_20 : decode cX1_dropLast 20 = .ok (.aload_n 0, 1) := by decide +kernel
theorem dX1_dropLast_21 : decode cX1_dropLast 21 = .ok (.getfield 28, 3) := by decide +kernel
theorem dX1_dropLast_24 : decode cX1_dropLast 24 = .ok (.ireturn, 1) := by decide +kernel
theorem dX1_barsSigned_0 : decode cX1_barsSigned 0 = .ok (.iconst 0, 1) := by decide +kernel
theorem dX1_barsSigned_1 : decode cX1_barsSigned 1 = .ok (.istore_n 2, 1) := by decide +kernel
theorem dX1_barsSigned_2 : decode cX1_barsSigned 2 = .ok (.iconst 0, 1) := by decide +kernel
theorem dX1_barsSigned_3 : decode cX1_barsSigned 3 = .ok (.istore_n 3, 1) := by decide +kernel
theorem dX1_barsSigned_4 : decode cX1_barsSigned 4 = .ok (.iload_n 3, 1) := by decide +kernel
theorem dX1_barsSigned_5 : decode cX1_barsSigned 5 = .ok (.aload_n 0, 1) := by decide +kernel
theorem dX1_barsSigned_6 : decode cX1_barsSigned 6 = .ok (.getfield 28, 3) := by decide +kernel
theorem dX1_barsSigned_9 : decode cX1_barsSigned 9 = .ok (.if_icmp .ge 25, 3) := by decide +kernel
theorem dX1_barsSigned_12 : decode cX1_barsSigned 12 = .ok (.aload_n 0, 1) := by decide +kernel
theorem dX1_barsSigned_13 : decode cX1_barsSigned 13 = .ok (.getfield 21, 3) := by decide +kernel
theorem dX1_barsSigned_16 : decode cX1_barsSigned 16 = .ok (.iload_n 3, 1) := by decide +kernel
theorem dX1_barsSigned_17 : decode cX1_barsSigned 17 = .ok (.iaload, 1) := by decide +kernel
theorem dX1_barsSigned_18 : decode cX1_barsSigned 18 = .ok (.iload_n 1, 1) := by decide +kernel
theorem dX1_barsSigned_19 : decode cX1_barsSigned 19 = .ok (.if_icmp .ne 9, 3) := by decide +kernel
theorem dX1_barsSigned_22 : decode cX1_barsSigned 22 = .ok (.iload_n 2, 1) := by decide +kernel
theorem dX1_barsSigned_23 : decode cX1_barsSigned 23 = .ok (.iconst 1, 1) := by decide +kernel
theorem dX1_barsSigned_24 : decode cX1_barsSigned 24 = .ok (.iload_n 3, 1) := by decide +kernel
theorem dX1_barsSigned_25 : decode cX1_barsSigned 25 = .ok (.ishl, 1) := by decide +kernel
theorem dX1_barsSigned_26 : decode cX1_barsSigned 26 = .ok (.ior, 1) := by decide +kernel
theorem dX1_barsSigned_27 : decode cX1_barsSigned 27 = .ok (.istore_n 2, 1) := by decide +kernel
theorem dX1_barsSigned_28 : decode cX1_barsSigned 28 = .ok (.iinc 3 1, 3) := by decide +kernel
theorem dX1_barsSigned_31 : decode cX1_barsSigned 31 = .ok (.goto (-27), 3) := by decide +kernel
theorem dX1_barsSigned_34 : decode cX1_barsSigned 34 = .ok (.iload_n 2, 1) := by decide +kernel
theorem dX1_barsSigned_35 : decode cX1_barsSigned 35 = .ok (.ireturn, 1) := by decide +kernel
theorem dX1_neighbours_0 : decode cX1_neighbours 0 = .ok (.iconst 0, 1) := by decide +kernel
theorem dX1_neighbours_1 : decode cX1_neighbours 1 = .ok (.istore_n 2, 1) := by decide +kernel
theorem dX1_neighbours_2 : decode cX1_neighbours 2 = .ok (.iconst 0, 1) := by decide +kernel
theorem dX1_neighbours_3 : decode cX1_neighbours 3 = .ok (.istore_n 3, 1) := by decide +kernel
theorem dX1_neighbours_4 : decode cX1_neighbours 4 = .ok (.iload_n 3, 1) := by decide +kernel
theorem dX1_neighbours_5 : decode cX1_neighbours 5 = .ok (.aload_n 0, 1) := by decide +kernel
theorem dX1_neighbours_6 : decode cX1_neighbours 6 = .ok (.getfield 28, 3) := by decide +kernel
theorem dX1_neighbours_9 : decode cX1_neighbours 9 = .ok (.if_icmp .ge 54, 3) := by decide +kernel
theorem dX1_neighbours_12 : decode cX1_neighbours 12 = .ok (.aload_n 0, 1) := by decide +kernel
theorem dX1_neighbours_13 : decode cX1_neighbours 13 = .ok (.getfield 15, 3) := by decide +kernel
theorem dX1_neighbours_16 : decode cX1_neighbours 16 = .ok (.iload_n 3, 1) := by decide +kernel
theorem dX1_neighbours_17 : decode cX1_neighbours 17 = .ok (.iaload, 1) := by decide +kernel
theorem dX1_neighbours_18 : decode cX1_neighbours 18 = .ok (.iload_n 1, 1) := by decide +kernel
theorem dX1_neighbours_19 : decode cX1_neighbours 19 = .ok (.if_icmp .ne 17, 3) := by decide +kernel
theorem dX1_neighbours_22 : decode cX1_neighbours 22 = .ok (.iload_n 2, 1) := by decide +kernel
theorem dX1_neighbours_23 : decode cX1_neighbours 23 = .ok (.iconst 1, 1) := by decide +kernel
theorem dX1_neighbours_24 : decode cX1_neighbours 24 = .ok (.aload_n 0, 1) := by decide +kernel
theorem dX1_neighbours_25 : decode cX1_neighbours 25 = .ok (.getfield 18, 3) := by decide +kernel
theorem dX1_neighbours_28 : decode cX1_neighbours 28 = .ok (.iload_n 3, 1) := by decide +kernel
theorem dX1_neighbours_29 : decode cX1_neighbours 29 = .ok (.iaload, 1) := by decide +kernel
theorem dX1_neighbours_30 : decode cX1_neighbours 30 = .ok (.ishl, 1) := by decide +kernel
theorem dX1_neighbours_31 : decode cX1_neighbours 31 = .ok (.ior, 1) := by decide +kernel
theorem dX1_neighbours_32 : decode cX1_neighbours 32 = .ok (.istore_n 2, 1) := by decide +kernel
theorem dX1_neighbours_33 : decode cX1_neighbours 33 = .ok (.goto 24, 3) := by decide +kernel
theorem dX1_neighbours_36 : decode cX1_neighbours 36 = .ok (.aload_n 0, 1) := by decide +kernel
theorem dX1_neighbours_37 : decode cX1_neighbours 37 = .ok (.getfield 18, 3) := by decide +kernel
theorem dX1_neighbours_40 : decode cX1_neighbours 40 = .ok (.iload_n 3, 1) := by decide +kernel
theorem dX1_neighbours_41 : decode cX1_neighbours 41 = .ok (.iaload, 1) := by decide +kernel
theorem dX1_neighbours_42 : decode cX1_neighbours 42 = .ok (.iload_n 1, 1) := by decide +kernel
theorem dX1_neighbours_43 : decode cX1_neighbours 43 = .ok (.if_icmp .ne 14, 3) := by decide +kernel
theorem dX1_neighbours_46 : decode cX1_neighbours 46 = .ok (.iload_n 2, 1) := by decide +kernel
theorem dX1_neighbours_47 : decode cX1_neighbours 47 = .ok (.iconst 1, 1) := by decide +kernel
theorem dX1_neighbours_48 : decode cX1_neighbours 48 = .ok (.aload_n 0, 1) := by decide +kernel
theorem dX1_neighbours_49 : decode cX1_neighbours 49 = .ok (.getfield 15, 3) := by decide +kernel
theorem dX1_neighbours_52 : decode cX1_neighbours 52 = .ok (.iload_n 3, 1) := by decide +kernel
theorem dX1_neighbours_53 : decode cX1_neighbours 53 = .ok (.iaload, 1) := by decide +kernel
theorem dX1_neighbours_54 : decode cX1_neighbours 54 = .ok (.ishl, 1) := by decide +kernel
theorem dX1_neighbours_55 : decode cX1_neighbours 55 = .ok (.ior, 1) := by decide +kernel
theorem dX1_neighbours_56 : decode cX1_neighbours 56 = .ok (.istore_n 2, 1) := by decide +kernel
theorem dX1_neighbours_57 : decode cX1_neighbours 57 = .ok (.iinc 3 1, 3) := by decide +kernel
theorem dX1_neighbours_60 : decode cX1_neighbours 60 = .ok (.goto (-56), 3) := by decide +kernel
theorem dX1_neighbours_63 : decode cX1_neighbours 63 = .ok (.iload_n 2, 1) := by decide +kernel
theorem dX1_neighbours_64 : decode cX1_neighbours 64 = .ok (.ireturn, 1) := by decide +kernel
theorem dX1_hangsTogether_0 : decode cX1_hangsTogether 0 = .ok (.iload_n 1, 1) := by decide +kernel
theorem dX1_hangsTogether_1 : decode cX1_hangsTogether 1 = .ok (.iload_n 1, 1) := by decide +kernel
theorem dX1_hangsTogether_2 : decode cX1_hangsTogether 2 = .ok (.ineg, 1) := by decide +kernel
theorem dX1_hangsTogether_3 : decode cX1_hangsTogether 3 = .ok (.iand, 1) := by decide +kernel
theorem dX1_hangsTogether_4 : decode cX1_hangsTogether 4 = .ok (.istore_n 2, 1) := by decide +kernel
theorem dX1_hangsTogether_5 : decode cX1_hangsTogether 5 = .ok (.iconst 1, 1) := by decide +kernel
theorem dX1_hangsTogether_6 : decode cX1_hangsTogether 6 = .ok (.istore_n 3, 1) := by decide +kernel
theorem dX1_hangsTogether_7 : decode cX1_hangsTogether 7 = .ok (.iload_n 3, 1) := by decide +kernel
theorem dX1_hangsTogether_8 : decode cX1_hangsTogether 8 = .ok (.aload_n 0, 1) := by decide +kernel
theorem dX1_hangsTogether_9 : decode cX1_hangsTogether 9 = .ok (.getfield 24, 3) := by decide +kernel
theorem dX1_hangsTogether_12 : decode cX1_hangsTogether 12 = .ok (.if_icmp .ge 48, 3) := by decide +kernel
theorem dX1_hangsTogether_15 : decode cX1_hangsTogether 15 = .ok (.iconst 0, 1) := by decide +kernel
theorem dX1_hangsTogether_16 : decode cX1_hangsTogether 16 = .ok (.istore 4, 2) := by decide +kernel
theorem dX1_hangsTogether_18 : decode cX1_hangsTogether 18 = .ok (.iload 4, 2) := by decide +kernel
theorem dX1_hangsTogether_20 : decode cX1_hangsTogether 20 = .ok (.aload_n 0, 1) := by decide +kernel
theorem dX1_hangsTogether_21 : decode cX1_hangsTogether 21 = .ok (.getfield 24, 3) := by decide +kernel
theorem dX1_hangsTogether_24 : decode cX1_hangsTogether 24 = .ok (.if_icmp .ge 30, 3) := by decide +kernel
theorem dX1_hangsTogether_27 : decode cX1_hangsTogether 27 = .ok (.iload_n 2, 1) := by decide +kernel
theorem dX1_hangsTogether_28 : decode cX1_hangsTogether 28 = .ok (.iload 4, 2) := by decide +kernel
theorem dX1_hangsTogether_30 : decode cX1_hangsTogether 30 = .ok (.ishr, 1) := by decide +kernel
theorem dX1_hangsTogether_31 : decode cX1_hangsTogether 31 = .ok (.iconst 1, 1) := by decide +kernel
theorem dX1_hangsTogether_32 : decode cX1_hangsTogether 32 = .ok (.iand, 1) := by decide +kernel
theorem dX1_hangsTogether_33 : decode cX1_hangsTogether 33 = .ok (.iconst 1, 1) := by decide +kernel
theorem dX1_hangsTogether_34 : decode cX1_hangsTogether 34 = .ok (.if_icmp .ne 14, 3) := by decide +kernel
theorem dX1_hangsTogether_37 : decode cX1_hangsTogether 37 = .ok (.iload_n 2, 1) := by decide +kernel
theorem dX1_hangsTogether_38 : decode cX1_hangsTogether 38 = .ok (.aload_n 0, 1) := by decide +kernel
theorem dX1_hangsTogether_39 : decode cX1_hangsTogether 39 = .ok (.iload 4, 2) := by decide +kernel
theorem dX1_hangsTogether_41 : decode cX1_hangsTogether 41 = .ok (.invokevirtual 44, 3) := by decide +kernel
theorem dX1_hangsTogether_44 : decode cX1_hangsTogether 44 = .ok (.iload_n 1, 1) := by decide +kernel
theorem dX1_hangsTogether_45 : decode cX1_hangsTogether 45 = .ok (.iand, 1) := by decide +kernel
theorem dX1_hangsTogether_46 : decode cX1_hangsTogether 46 = .ok (.ior, 1) := by decide +kernel
theorem dX1_hangsTogether_47 : decode cX1_hangsTogether 47 = .ok (.istore_n 2, 1) := by decide +kernel
theorem dX1_hangsTogether_48 : decode cX1_hangsTogether 48 = .ok (.iinc 4 1, 3) := by decide +kernel
theorem dX1_hangsTogether_51 : decode cX1_hangsTogether 51 = .ok (.goto (-33), 3) := by decide +kernel
theorem dX1_hangsTogether_54 : decode cX1_hangsTogether 54 = .ok (.iinc 3 1, 3) := by decide +kernel
theorem dX1_hangsTogether_57 : decode cX1_hangsTogether 57 = .ok (.goto (-50), 3) := by decide +kernel
theorem dX1_hangsTogether_60 : decode cX1_hangsTogether 60 = .ok (.iload_n 2, 1) := by decide +kernel
theorem dX1_hangsTogether_61 : decode cX1_hangsTogether 61 = .ok (.iload_n 1, 1) := by decide +kernel
theorem dX1_hangsTogether_62 : decode cX1_hangsTogether 62 = .ok (.if_icmp .ne 7, 3) := by decide +kernel
theorem dX1_hangsTogether_65 : decode cX1_hangsTogether 65 = .ok (.iconst 1, 1) := by decide +kernel
theorem dX1_hangsTogether_66 : decode cX1_hangsTogether 66 = .ok (.goto 4, 3) := by decide +kernel
theorem dX1_hangsTogether_69 : decode cX1_hangsTogether 69 = .ok (.iconst 0, 1) := by decide +kernel
theorem dX1_hangsTogether_70 : decode cX1_hangsTogether 70 = .ok (.ireturn, 1) := by decide +kernel
theorem dX2_init_0 : decode cX2_init 0 = .ok (.aload_n 0, 1) := by decide +kernel
theorem dX2_init_1 : decode cX2_init 1 = .ok (.invokespecial 3, 3) := by decide +kernel
theorem dX2_init_4 : decode cX2_init 4 = .ok (.aload_n 0, 1) := by decide +kernel
theorem dX2_init_5 : decode cX2_init 5 = .ok (.sipush 4096, 3) := by decide +kernel
theorem dX2_init_8 : decode cX2_init 8 = .ok (.newarray .int, 2) := by decide +kernel
theorem dX2_init_10 : decode cX2_init 10 = .ok (.putfield 9, 3) := by decide +kernel
theorem dX2_init_13 : decode cX2_init 13 = .ok (.aload_n 0, 1) := by decide +kernel
theorem dX2_init_14 : decode cX2_init 14 = .ok (.bipush 7, 2) := by decide +kernel
theorem dX2_init_16 : decode cX2_init 16 = .ok (.newarray .int, 2) := by decide +kernel
theorem dX2_init_18 : decode cX2_init 18 = .ok (.putfield 15, 3) := by decide +kernel
theorem dX2_init_21 : decode cX2_init 21 = .ok (.aload_n 0, 1) := by decide +kernel
theorem dX2_init_22 : decode cX2_init 22 = .ok (.bipush 12, 2) := by decide +kernel
theorem dX2_init_24 : decode cX2_init 24 = .ok (.newarray .int, 2) := by decide +kernel
theorem dX2_init_26 : decode cX2_init 26 = .ok (.putfield 18, 3) := by decide +kernel
theorem dX2_init_29 : decode cX2_init 29 = .ok (.aload_n 0, 1) := by decide +kernel
theorem dX2_init_30 : decode cX2_init 30 = .ok (.sipush 169, 3) := by decide +kernel
theorem dX2_init_33 : decode cX2_init 33 = .ok (.newarray .int, 2) := by decide +kernel
theorem dX2_init_35 : decode cX2_init 35 = .ok (.putfield 21, 3) := by decide +kernel
theorem dX2_init_38 : decode cX2_init 38 = .ok (.aload_n 0, 1) := by decide +kernel
theorem dX2_init_39 : decode cX2_init 39 = .ok (.iconst 0, 1) := by decide +kernel
theorem dX2_init_40 : decode cX2_init 40 = .ok (.putfield 24, 3) := by decide +kernel
theorem dX2_init_43 : decode cX2_init 43 = .ok (.aload_n 0, 1) := by decide +kernel
theorem dX2_init_44 : decode cX2_init 44 = .ok (.aload_n 1, 1) := by decide +kernel
theorem dX2_init_45 : decode cX2_init 45 = .ok (.putfield 28, 3) := by decide +kernel
theorem dX2_init_48 : decode cX2_init 48 = .ok (.return_, 1) := by decide +kernel
theorem dX2_refresh_0 : decode cX2_refresh 0 = .ok (.aload_n 0, 1) := by decide +kernel
theorem dX2_refresh_1 : decode cX2_refresh 1 = .ok (.getfield 24, 3) := by decide +kernel
theorem dX2_refresh_4 : decode cX2_refresh 4 = .ok (.aload_n 0, 1) := by decide +kernel
theorem dX2_refresh_5 : decode cX2_refresh 5 = .ok (.getfield 28, 3) := by decide +kernel
theorem dX2_refresh_8 : decode cX2_refresh 8 = .ok (.getfield 32, 3) := by decide +kernel
theorem dX2_refresh_11 : decode cX2_refresh 11 = .ok (.if_icmp .ne 4, 3) := by decide +kernel
theorem dX2_refresh_14 : decode cX2_refresh 14 = .ok (.return_, 1) := by decide +kernel
theorem dX2_refresh_15 : decode cX2_refresh 15 = .ok (.aload_n 0, 1) := by decide +kernel
theorem dX2_refresh_16 : decode cX2_refresh 16 = .ok (.invokevirtual 37, 3) := by decide +kernel
theorem dX2_refresh_19 : decode cX2_refresh 19 = .ok (.aload_n 0, 1) := by decide +kernel
theorem dX2_refresh_20 : decode cX2_refresh 20 = .ok (.getfield 9, 3) := by decide +kernel
theorem dX2_refresh_23 : decode cX2_refresh 23 = .ok (.iconst 0, 1) := by decide +kernel
theorem dX2_refresh_24 : decode cX2_refresh 24 = .ok (.iconst 0, 1) := by decide +kernel
theorem dX2_refresh_25 : decode cX2_refresh 25 = .ok (.iastore, 1) := by decide +kernel
theorem dX2_refresh_26 : decode cX2_refresh 26 = .ok (.aload_n 0, 1) := by decide +kernel
theorem dX2_refresh_27 : decode cX2_refresh 27 = .ok (.iconst 0, 1) := by decide +kernel
theorem dX2_refresh_28 : decode cX2_refresh 28 = .ok (.iconst 0, 1) := by decide +kernel
theorem dX2_refresh_29 : decode cX2_refresh 29 = .ok (.iconst 0, 1) := by decide +kernel
theorem dX2_refresh_30 : decode cX2_refresh 30 = .ok (.invokevirtual 40, 3) := by decide +kernel
theorem dX2_refresh_33 : decode cX2_refresh 33 = .ok (.aload_n 0, 1) := by decide +kernel
theorem dX2_refresh_34 : decode cX2_refresh 34 = .ok (.invokevirtual 44, 3) := by decide +kernel
theorem dX2_refresh_37 : decode cX2_refresh 37 = .ok (.aload_n 0, 1) := by decide +kernel
theorem dX2_refresh_38 : decode cX2_refresh 38 = .ok (.aload_n 0, 1) := by decide +kernel
theorem dX2_refresh_39 : decode cX2_refresh 39 = .ok (.getfield 28, 3) := by decide +kernel
theorem dX2_refresh_42 : decode cX2_refresh 42 = .ok (.getfield 32, 3) := by decide +kernel
theorem dX2_refresh_45 : decode cX2_refresh 45 = .ok (.putfield 24, 3) := by decide +kernel
theorem dX2_refresh_48 : decode cX2_refresh 48 = .ok (.return_, 1) := by decide +kernel
theorem dX2_grow_0 : decode cX2_grow 0 = .ok (.iload_n 1, 1) := by decide +kernel
theorem dX2_grow_1 : decode cX2_grow 1 = .ok (.bipush 12, 2) := by decide +kernel
theorem dX2_grow_3 : decode cX2_grow 3 = .ok (.if_icmp .lt 4, 3) := by decide +kernel
theorem dX2_grow_6 : decode cX2_grow 6 = .ok (.return_, 1) := by decide +kernel
theorem dX2_grow_7 : decode cX2_grow 7 = .ok (.iload_n 3, 1) := by decide +kernel
theorem dX2_grow_8 : decode cX2_grow 8 = .ok (.istore 4, 2) := by decide +kernel
theorem dX2_grow_10 : decode cX2_grow 10 = .ok (.iload 4, 2) := by decide +kernel
theorem dX2_grow_12 : decode cX2_grow 12 = .ok (.aload_n 0, 1) := by decide +kernel
theorem dX2_grow_13 : decode cX2_grow 13 = .ok (.getfield 28, 3) := by decide +kernel
theorem dX2_grow_16 : decode cX2_grow 16 = .ok (.getfield 47, 3) := by decide +kernel
theorem dX2_grow_19 : decode cX2_grow 19 = .ok (.if_icmp .ge 61, 3) := by decide +kernel
theorem dX2_grow_22 : decode cX2_grow 22 = .ok (.iload_n 2, 1) := by decide +kernel
theorem dX2_grow_23 : decode cX2_grow 23 = .ok (.iconst 1, 1) := by decide +kernel
theorem dX2_grow_24 : decode cX2_grow 24 = .ok (.iload 4, 2) := by decide +kernel
theorem dX2_grow_26 : decode cX2_grow 26 = .ok (.ishl, 1) := by decide +kernel
theorem dX2_grow_27 : decode cX2_grow 27 = .ok (.ior, 1) := by decide +kernel
theorem dX2_grow_28 : decode cX2_grow 28 = .ok (.istore 5, 2) := by decide +kernel
theorem dX2_grow_30 : decode cX2_grow 30 = .ok (.aload_n 0, 1) := by decide +kernel
theorem dX2_grow_31 : decode cX2_grow 31 = .ok (.iload_n 1, 1) := by decide +kernel
theorem dX2_grow_32 : decode cX2_grow 32 = .ok (.iload_n 2, 1) := by decide +kernel
theorem dX2_grow_33 : decode cX2_grow 33 = .ok (.iload 4, 2) := by decide +kernel
theorem dX2_grow_35 : decode cX2_grow 35 = .ok (.invokevirtual 50, 3) := by decide +kernel
theorem dX2_grow_38 : decode cX2_grow 38 = .ok (.ifCond .eq 28, 3) := by decide +kernel
theorem dX2_grow_41 : decode cX2_grow 41 = .ok (.aload_n 0, 1) := by decide +kernel
theorem dX2_grow_42 : decode cX2_grow 42 = .ok (.getfield 9, 3) := by decide +kernel
theorem dX2_grow_45 : decode cX2_grow 45 = .ok (.iload 5, 2) := by decide +kernel
theorem dX2_grow_47 : decode cX2_grow 47 = .ok (.iload 5, 2) := by decide +kernel
theorem dX2_grow_49 : decode cX2_grow 49 = .ok (.iastore, 1) := by decide +kernel
theorem dX2_grow_50 : decode cX2_grow 50 = .ok (.aload_n 0, 1) := by decide +kernel
theorem dX2_grow_51 : decode cX2_grow 51 = .ok (.iload_n 1, 1) := by decide +kernel
theorem dX2_grow_52 : decode cX2_grow 52 = .ok (.iconst 1, 1) := by decide +kernel
theorem dX2_grow_53 : decode cX2_grow 53 = .ok (.iadd, 1) := by decide +kernel
theorem dX2_grow_54 : decode cX2_grow 54 = .ok (.iload 5, 2) := by decide +kernel
theorem dX2_grow_56 : decode cX2_grow 56 = .ok (.iload 4, 2) := by decide +kernel
theorem dX2_grow_58 : decode cX2_grow 58 = .ok (.iconst 1, 1) := by decide +kernel
theorem dX2_grow_59 : decode cX2_grow 59 = .ok (.iadd, 1) := by decide +kernel
theorem dX2_grow_60 : decode cX2_grow 60 = .ok (.invokevirtual 40, 3) := by decide +kernel
theorem dX2_grow_63 : decode cX2_grow 63 = .ok (.goto 11, 3) := by decide +kernel
theorem dX2_grow_66 : decode cX2_grow 66 = .ok (.aload_n 0, 1) := by decide +kernel
theorem dX2_grow_67 : decode cX2_grow 67 = .ok (.getfield 9, 3) := by decide +kernel
theorem dX2_grow_70 : decode cX2_grow 70 = .ok (.iload 5, 2) := by decide +kernel
theorem dX2_grow_72 : decode cX2_grow 72 = .ok (.iload_n 2, 1) := by decide +kernel
theorem dX2_grow_73 : decode cX2_grow 73 = .ok (.iastore, 1) := by decide +kernel
theorem dX2_grow_74 : decode cX2_grow 74 = .ok (.iinc 4 1, 3) := by decide +kernel
theorem dX2_grow_77 : decode cX2_grow 77 = .ok (.goto (-67), 3) := by decide +kernel
theorem dX2_grow_80 : decode cX2_grow 80 = .ok (.return_, 1) := by decide +kernel
theorem dX2_completeBases_0 : decode cX2_completeBases 0 = .ok (.iconst 0, 1) := by decide +kernel
theorem dX2_completeBases_1 : decode cX2_completeBases 1 = .ok (.istore_n 1, 1) := by decide +kernel
theorem dX2_completeBases_2 : decode cX2_completeBases 2 = .ok (.iload_n 1, 1) := by decide +kernel
theorem dX2_completeBases_3 : decode cX2_completeBases 3 = .ok (.aload_n 0, 1) := by decide +kernel
theorem dX2_completeBases_4 : decode cX2_completeBases 4 = .ok (.getfield 28, 3) := by decide +kernel
theorem dX2_completeBases_7 : decode cX2_completeBases 7 = .ok (.getfield 47, 3) := by decide +kernel
theorem dX2_completeBases_10 : decode cX2_completeBases 10 = .ok (.if_icmp .ge 57, 3) := by decide +kernel
theorem dX2_completeBases_13 : decode cX2_completeBases 13 = .ok (.iconst 1, 1) := by decide +kernel
theorem dX2_completeBases_14 : decode cX2_completeBases 14 = .ok (.iload_n 1, 1) := by decide +kernel
theorem dX2_completeBases_15 : decode cX2_completeBases 15 = .ok (.ishl, 1) := by decide +kernel
theorem dX2_completeBases_16 : decode cX2_completeBases 16 = .ok (.istore_n 2, 1) := by decide +kernel
theorem dX2_completeBases_17 : decode cX2_completeBases 17 = .ok (.iconst 0, 1) := by decide +kernel
theorem dX2_completeBases_18 : decode cX2_completeBases 18 = .ok (.istore_n 3, 1) := by decide +kernel
theorem dX2_completeBases_19 : decode cX2_completeBases 19 = .ok (.iload_n 3, 1) := by decide +kernel
theorem dX2_completeBases_20 : decode cX2_completeBases 20 = .ok (.iload_n 2, 1) := by decide +kernel
theorem dX2_completeBases_21 : decode cX2_completeBases 21 = .ok (.if_icmp .ge 40, 3) := by decide +kernel
theorem dX2_completeBases_24 : decode cX2_completeBases 24 = .ok (.aload_n 0, 1) := by decide +kernel
theorem dX2_completeBases_25 : decode cX2_completeBases 25 = .ok (.getfield 9, 3) := by decide +kernel
theorem dX2_completeBases_28 : decode cX2_completeBases 28 = .ok (.iload_n 3, 1) := by decide +kernel
theorem dX2_completeBases_29 : decode cX2_completeBases 29 = .ok (.iaload, 1) := by decide +kernel
theorem dX2_completeBases_30 : decode cX2_completeBases 30 = .ok (.iload_n 3, 1) := by decide +kernel
theorem dX2_completeBases_31 : decode cX2_completeBases 31 = .ok (.if_icmp .eq 24, 3) := by decide +kernel
theorem dX2_completeBases_34 : decode cX2_completeBases 34 = .ok (.aload_n 0, 1) := by decide +kernel
theorem dX2_completeBases_35 : decode cX2_completeBases 35 = .ok (.getfield 9, 3) := by decide +kernel
theorem dX2_completeBases_38 : decode cX2_completeBases 38 = .ok (.iload_n 3, 1) := by decide +kernel
theorem dX2_completeBases_39 : decode cX2_completeBases 39 = .ok (.iload_n 2, 1) := by decide +kernel
theorem dX2_completeBases_40 : decode cX2_completeBases 40 = .ok (.ior, 1) := by decide +kernel
theorem dX2_completeBases_41 : decode cX2_completeBases 41 = .ok (.aload_n 0, 1) := by decide +kernel
theorem dX2_completeBases_42 : decode cX2_completeBases 42 = .ok (.getfield 9, 3) := by decide +kernel
theorem dX2_completeBases_45 : decode cX2_completeBases 45 = .ok (.aload_n 0, 1) := by decide +kernel
theorem dX2_completeBases_46 : decode cX2_completeBases 46 = .ok (.getfield 9, 3) := by decide +kernel
theorem dX2_completeBases_49 : decode cX2_completeBases 49 = .ok (.iload_n 3, 1) := by decide +kernel
theorem dX2_completeBases_50 : decode cX2_completeBases 50 = .ok (.iaload, 1) := by decide +kernel
theorem dX2_completeBases_51 : decode cX2_completeBases 51 = .ok (.iload_n 2, 1) := by decide +kernel
theorem dX2_completeBases_52 : decode cX2_completeBases 52 = .ok (.ior, 1) := by decide +kernel
theorem dX2_completeBases_53 : decode cX2_completeBases 53 = .ok (.iaload, 1) := by decide +kernel
theorem dX2_completeBases_54 : decode cX2_completeBases 54 = .ok (.iastore, 1) := by decide +kernel
theorem dX2_completeBases_55 : decode cX2_completeBases 55 = .ok (.iinc 3 1, 3) := by decide +kernel
theorem dX2_completeBases_58 : decode cX2_completeBases 58 = .ok (.goto (-39), 3) := by decide +kernel
theorem dX2_completeBases_61 : decode cX2_completeBases 61 = .ok (.iinc 1 1, 3) := by decide +kernel
theorem dX2_completeBases_64 : decode cX2_completeBases 64 = .ok (.goto (-62), 3) := by decide +kernel
theorem dX2_completeBases_67 : decode cX2_completeBases 67 = .ok (.return_, 1) := by decide +kernel
theorem dX2_rankOf_0 : decode cX2_rankOf 0 = .ok (.aload_n 0, 1) := by decide +kernel
theorem dX2_rankOf_1 : decode cX2_rankOf 1 = .ok (.getfield 9, 3) := by decide +kernel
theorem dX2_rankOf_4 : decode cX2_rankOf 4 = .ok (.iload_n 1, 1) := by decide +kernel
theorem dX2_rankOf_5 : decode cX2_rankOf 5 = .ok (.iaload, 1) := by decide +kernel
theorem dX2_rankOf_6 : decode cX2_rankOf 6 = .ok (.invokestatic 54, 3) := by decide +kernel
theorem dX2_rankOf_9 : decode cX2_rankOf 9 = .ok (.ireturn, 1) := by decide +kernel
theorem dX2_closureOf_0 : decode cX2_closureOf 0 = .ok (.iload_n 1, 1) := by decide +kernel
theorem dX2_closureOf_1 : decode cX2_closureOf 1 = .ok (.istore_n 2, 1) := by decide +kernel
theorem dX2_closureOf_2 : decode cX2_closureOf 2 = .ok (.aload_n 0, 1) := by decide +kernel
theorem dX2_closureOf_3 : decode cX2_closureOf 3 = .ok (.iload_n 1, 1) := by decide +kernel
theorem dX2_closureOf_4 : decode cX2_closureOf 4 = .ok (.invokevirtual 60, 3) := by decide +kernel
theorem dX2_closureOf_7 : decode cX2_closureOf 7 = .ok (.istore_n 3, 1) := by decide +kernel
theorem dX2_closureOf_8 : decode cX2_closureOf 8 = .ok (.iconst 0, 1) := by decide +kernel
theorem dX2_closureOf_9 : decode cX2_closureOf 9 = .ok (.istore 4, 2) := by decide +kernel
theorem dX2_closureOf_11 : decode cX2_closureOf 11 = .ok (.iload 4, 2) := by decide +kernel
theorem dX2_closureOf_13 : decode cX2_closureOf 13 = .ok (.aload_n 0, 1) := by decide +kernel
theorem dX2_closureOf_14 : decode cX2_closureOf 14 = .ok (.getfield 28, 3) := by decide +kernel
theorem dX2_closureOf_17 : decode cX2_closureOf 17 = .ok (.getfield 47, 3) := by decide +kernel
theorem dX2_closureOf_20 : decode cX2_closureOf 20 = .ok (.if_icmp .ge 30, 3) := by decide +kernel
theorem dX2_closureOf_23 : decode cX2_closureOf 23 = .ok (.aload_n 0, 1) := by decide +kernel
theorem dX2_closureOf_24 : decode cX2_closureOf 24 = .ok (.iload_n 1, 1) := by decide +kernel
theorem dX2_closureOf_25 : decode cX2_closureOf 25 = .ok (.iconst 1, 1) := by decide +kernel
theorem dX2_closureOf_26 : decode cX2_closureOf 26 = .ok (.iload 4, 2) := by decide +kernel
theorem dX2_closureOf_28 : decode cX2_closureOf 28 = .ok (.ishl, 1) := by decide +kernel
theorem dX2_closureOf_29 : decode cX2_closureOf 29 = .ok (.ior, 1) := by decide +kernel
theorem dX2_closureOf_30 : decode cX2_closureOf 30 = .ok (.invokevirtual 60, 3) := by decide +kernel
theorem dX2_closureOf_33 : decode cX2_closureOf 33 = .ok (.iload_n 3, 1) := by decide +kernel
theorem dX2_closureOf_34 : decode cX2_closureOf 34 = .ok (.if_icmp .ne 10, 3) := by decide +kernel
theorem dX2_closureOf_37 : decode cX2_closureOf 37 = .ok (.iload_n 2, 1) := by decide +kernel
theorem dX2_closureOf_38 : decode cX2_closureOf 38 = .ok (.iconst 1, 1) := by decide +kernel
theorem dX2_closureOf_39 : decode cX2_closureOf 39 = .ok (.iload 4, 2) := by decide +kernel
theorem dX2_closureOf_41 : decode cX2_closureOf 41 = .ok (.ishl, 1) := by decide +kernel
theorem dX2_closureOf_42 : decode cX2_closureOf 42 = .ok (.ior, 1) := by decide +kernel
theorem dX2_closureOf_43 : decode cX2_closureOf 43 = .ok (.istore_n 2, 1) := by decide +kernel
theorem dX2_closureOf_44 : decode cX2_closureOf 44 = .ok (.iinc 4 1, 3) := by decide +kernel
theorem dX2_closureOf_47 : decode cX2_closureOf 47 = .ok (.goto (-36), 3) := by decide +kernel
theorem dX2_closureOf_50 : decode cX2_closureOf 50 = .ok (.iload_n 2, 1) := by decide +kernel
theorem dX2_closureOf_51 : decode cX2_closureOf 51 = .ok (.ireturn, 1) := by decide +kernel
theorem dX2_isClosed_0 : decode cX2_isClosed 0 = .ok (.aload_n 0, 1) := by decide +kernel
theorem dX2_isClosed_1 : decode cX2_isClosed 1 = .ok (.iload_n 1, 1) := by decide +kernel
theorem dX2_isClosed_2 : decode cX2_isClosed 2 = .ok (.invokevirtual 60, 3) := by decide +kernel
theorem dX2_isClosed_5 : decode cX2_isClosed 5 = .ok (.istore_n 2, 1) := by decide +kernel
theorem dX2_isClosed_6 : decode cX2_isClosed 6 = .ok (.iconst 0, 1) := by decide +kernel
theorem dX2_isClosed_7 : decode cX2_isClosed 7 = .ok (.istore_n 3, 1) := by decide +kernel
theorem dX2_isClosed_8 : decode cX2_isClosed 8 = .ok (.iload_n 3, 1) := by decide +kernel
theorem dX2_isClosed_9 : decode cX2_isClosed 9 = .ok (.aload_n 0, 1) := by decide +kernel
theorem dX2_isClosed_10 : decode cX2_isClosed 10 = .ok (.getfield 28, 3) := by decide +kernel
theorem dX2_isClosed_13 : decode cX2_isClosed 13 = .ok (.getfield 47, 3) := by decide +kernel
theorem dX2_isClosed_16 : decode cX2_isClosed 16 = .ok (.if_icmp .ge 35, 3) := by decide +kernel
theorem dX2_isClosed_19 : decode cX2_isClosed 19 = .ok (.iconst 1, 1) := by decide +kernel
theorem dX2_isClosed_20 : decode cX2_isClosed 20 = .ok (.iload_n 3, 1) := by decide +kernel
theorem dX2_isClosed_21 : decode cX2_isClosed 21 = .ok (.ishl, 1) := by decide +kernel
theorem dX2_isClosed_22 : decode cX2_isClosed 22 = .ok (.istore 4, 2) := by decide +kernel
theorem dX2_isClosed_24 : decode cX2_isClosed 24 = .ok (.iload_n 1, 1) := by decide +kernel
theorem dX2_isClosed_25 : decode cX2_isClosed 25 = .ok (.iload 4, 2) := by decide +kernel
theorem dX2_isClosed_27 : decode cX2_isClosed 27 = .ok (.iand, 1) := by decide +kernel
theorem dX2_isClosed_28 : decode cX2_isClosed 28 = .ok (.ifCond .ne 17, 3) := by decide +kernel
theorem dX2_isClosed_31 : decode cX2_isClosed 31 = .ok (.aload_n 0, 1) := by decide +kernel
theorem dX2_isClosed_32 : decode cX2_isClosed 32 = .ok (.iload_n 1, 1) := by decide +kernel
theorem dX2_isClosed_33 : decode cX2_isClosed 33 = .ok (.iload 4, 2) := by decide +kernel
theorem dX2_isClosed_35 : decode cX2_isClosed 35 = .ok (.ior, 1) := by decide +kernel
theorem dX2_isClosed_36 : decode cX2_isClosed 36 = .ok (.invokevirtual 60, 3) := by decide +kernel
theorem dX2_isClosed_39 : decode cX2_isClosed 39 = .ok (.iload_n 2, 1) := by decide +kernel
theorem dX2_isClosed_40 : decode cX2_isClosed 40 = .ok (.if_icmp .ne 5, 3) := by decide +kernel
theorem dX2_isClosed_43 : decode cX2_isClosed 43 = .ok (.iconst 0, 1) := by decide +kernel
theorem dX2_isClosed_44 : decode cX2_isClosed 44 = .ok (.ireturn, 1) := by decide +kernel
theorem dX2_isClosed_45 : decode cX2_isClosed 45 = .ok (.iinc 3 1, 3) := by decide +kernel
theorem dX2_isClosed_48 : decode cX2_isClosed 48 = .ok (.goto (-40), 3) := by decide +kernel
theorem dX2_isClosed_51 : decode cX2_isClosed 51 = .ok (.iconst 1, 1) := by decide +kernel
theorem dX2_isClosed_52 : decode cX2_isClosed 52 = .ok (.ireturn, 1) := by decide +kernel
theorem dX2_spareBars_0 : decode cX2_spareBars 0 = .ok (.aload_n 0, 1) := by decide +kernel
theorem dX2_spareBars_1 : decode cX2_spareBars 1 = .ok (.getfield 28, 3) := by decide +kernel
theorem dX2_spareBars_4 : decode cX2_spareBars 4 = .ok (.invokevirtual 63, 3) := by decide +kernel
theorem dX2_spareBars_7 : decode cX2_spareBars 7 = .ok (.istore_n 1, 1) := by decide +kernel
theorem dX2_spareBars_8 : decode cX2_spareBars 8 = .ok (.iconst 0, 1) := by decide +kernel
theorem dX2_spareBars_9 : decode cX2_spareBars 9 = .ok (.istore_n 2, 1) := by decide +kernel
theorem dX2_spareBars_10 : decode cX2_spareBars 10 = .ok (.iconst 0, 1) := by decide +kernel
theorem dX2_spareBars_11 : decode cX2_spareBars 11 = .ok (.istore_n 3, 1) := by decide +kernel
theorem dX2_spareBars_12 : decode cX2_spareBars 12 = .ok (.iload_n 3, 1) := by decide +kernel
theorem dX2_spareBars_13 : decode cX2_spareBars 13 = .ok (.aload_n 0, 1) := by decide +kernel
theorem dX2_spareBars_14 : decode cX2_spareBars 14 = .ok (.getfield 28, 3) := by decide +kernel
theorem dX2_spareBars_17 : decode cX2_spareBars 17 = .ok (.getfield 47, 3) := by decide +kernel
theorem dX2_spareBars_20 : decode cX2_spareBars 20 = .ok (.if_icmp .ge 34, 3) := by decide +kernel
theorem dX2_spareBars_23 : decode cX2_spareBars 23 = .ok (.aload_n 0, 1) := by decide +kernel
theorem dX2_spareBars_24 : decode cX2_spareBars 24 = .ok (.iload_n 1, 1) := by decide +kernel
theorem dX2_spareBars_25 : decode cX2_spareBars 25 = .ok (.iconst 1, 1) := by decide +kernel
theorem dX2_spareBars_26 : decode cX2_spareBars 26 = .ok (.iload_n 3, 1) := by decide +kernel
theorem dX2_spareBars_27 : decode cX2_spareBars 27 = .ok (.ishl, 1) := by decide +kernel
theorem dX2_spareBars_28 : decode cX2_spareBars 28 = .ok (.iconst (-1), 1) := by decide +kernel
theorem dX2_spareBars_29 : decode cX2_spareBars 29 = .ok (.ixor, 1) := by decide +kernel
theorem dX2_spareBars_30 : decode cX2_spareBars 30 = .ok (.iand, 1) := by decide +kernel
theorem dX2_spareBars_31 : decode cX2_spareBars 31 = .ok (.invokevirtual 60, 3) := by decide +kernel
theorem dX2_spareBars_34 : decode cX2_spareBars 34 = .ok (.aload_n 0, 1) := by decide +kernel
theorem dX2_spareBars_35 : decode cX2_spareBars 35 = .ok (.iload_n 1, 1) := by decide +kernel
theorem dX2_spareBars_36 : decode cX2_spareBars 36 = .ok (.invokevirtual 60, 3) := by decide +kernel
theorem dX2_spareBars_39 : decode cX2_spareBars 39 = .ok (.if_icmp .ne 9, 3) := by decide +kernel
theorem dX2_spareBars_42 : decode cX2_spareBars 42 = .ok (.iload_n 2, 1) := by decide +kernel
theorem dX2_spareBars_43 : decode cX2_spareBars 43 = .ok (.iconst 1, 1) := by decide +kernel
theorem dX2_spareBars_44 : decode cX2_spareBars 44 = .ok (.iload_n 3, 1) := by decide +kernel
theorem dX2_spareBars_45 : decode cX2_spareBars 45 = .ok (.ishl, 1) := by decide +kernel
theorem dX2_spareBars_46 : decode cX2_spareBars 46 = .ok (.ior, 1) := by decide +kernel
theorem dX2_spareBars_47 : decode cX2_spareBars 47 = .ok (.istore_n 2, 1) := by decide +kernel
theorem dX2_spareBars_48 : decode cX2_spareBars 48 = .ok (.iinc 3 1, 3) := by decide +kernel
theorem dX2_spareBars_51 : decode cX2_spareBars 51 = .ok (.goto (-39), 3) := by decide +kernel
theorem dX2_spareBars_54 : decode cX2_spareBars 54 = .ok (.iload_n 2, 1) := by decide +kernel
theorem dX2_spareBars_55 : decode cX2_spareBars 55 = .ok (.ireturn, 1) := by decide +kernel
theorem dX2_isIndependent_0 : decode cX2_isIndependent 0 = .ok (.aload_n 0, 1) := by decide +kernel
theorem dX2_isIndependent_1 : decode cX2_isIndependent 1 = .ok (.getfield 9, 3) := by decide +kernel
theorem dX2_isIndependent_4 : decode cX2_isIndependent 4 = .ok (.iload_n 1, 1) := by decide +kernel
theorem dX2_isIndependent_5 : decode cX2_isIndependent 5 = .ok (.iaload, 1) := by decide +kernel
theorem dX2_isIndependent_6 : decode cX2_isIndependent 6 = .ok (.iload_n 1, 1) := by decide +kernel
theorem dX2_isIndependent_7 : decode cX2_isIndependent 7 = .ok (.if_icmp .ne 7, 3) := by decide +kernel
theorem dX2_isIndependent_10 : decode cX2_isIndependent 10 = .ok (.iconst 1, 1) := by decide +kernel
theorem dX2_isIndependent_11 : decode cX2_isIndependent 11 = .ok (.goto 4, 3) := by decide +kernel
theorem dX2_isIndependent_14 : decode cX2_isIndependent 14 = .ok (.iconst 0, 1) := by decide +kernel
theorem dX2_isIndependent_15 : decode cX2_isIndependent 15 = .ok (.ireturn, 1) := by decide +kernel
theorem dX2_isCircuit_0 : decode cX2_isCircuit 0 = .ok (.aload_n 0, 1) := by decide +kernel
theorem dX2_isCircuit_1 : decode cX2_isCircuit 1 = .ok (.iload_n 1, 1) := by decide +kernel
theorem dX2_isCircuit_2 : decode cX2_isCircuit 2 = .ok (.invokevirtual 67, 3) := by decide +kernel
theorem dX2_isCircuit_5 : decode cX2_isCircuit 5 = .ok (.ifCond .eq 5, 3) := by decide +kernel
theorem dX2_isCircuit_8 : decode cX2_isCircuit 8 = .ok (.iconst 0, 1) := by decide +kernel
theorem dX2_isCircuit_9 : decode cX2_isCircuit 9 = .ok (.ireturn, 1) := by decide +kernel
theorem dX2_isCircuit_10 : decode cX2_isCircuit 10 = .ok (.iconst 0, 1) := by decide +kernel
theorem dX2_isCircuit_11 : decode cX2_isCircuit 11 = .ok (.istore_n 2, 1) := by decide +kernel
theorem dX2_isCircuit_12 : decode cX2_isCircuit 12 = .ok (.iload_n 2, 1) := by decide +kernel
theorem dX2_isCircuit_13 : decode cX2_isCircuit 13 = .ok (.aload_n 0, 1) := by decide +kernel
theorem dX2_isCircuit_14 : decode cX2_isCircuit 14 = .ok (.getfield 28, 3) := by decide +kernel
theorem dX2_isCircuit_17 : decode cX2_isCircuit 17 = .ok (.getfield 47, 3) := by decide +kernel
theorem dX2_isCircuit_20 : decode cX2_isCircuit 20 = .ok (.if_icmp .ge 33, 3) := by decide +kernel
theorem dX2_isCircuit_23 : decode cX2_isCircuit 23 = .ok (.iconst 1, 1) := by decide +kernel
theorem dX2_isCircuit_24 : decode cX2_isCircuit 24 = .ok (.iload_n 2, 1) := by decide +kernel
theorem dX2_isCircuit_25 : decode cX2_isCircuit 25 = .ok (.ishl, 1) := by decide +kernel
theorem dX2_isCircuit_26 : decode cX2_isCircuit 26 = .ok (.istore_n 3, 1) := by decide +kernel
theorem dX2_isCircuit_27 : decode cX2_isCircuit 27 = .ok (.iload_n 1, 1) := by decide +kernel
theorem dX2_isCircuit_28 : decode cX2_isCircuit 28 = .ok (.iload_n 3, 1) := by decide +kernel
theorem dX2_isCircuit_29 : decode cX2_isCircuit 29 = .ok (.iand, 1) := by decide +kernel
theorem dX2_isCircuit_30 : decode cX2_isCircuit 30 = .ok (.ifCond .eq 17, 3) := by decide +kernel
theorem dX2_isCircuit_33 : decode cX2_isCircuit 33 = .ok (.aload_n 0, 1) := by decide +kernel
theorem dX2_isCircuit_34 : decode cX2_isCircuit 34 = .ok (.iload_n 1, 1) := by decide +kernel
theorem dX2_isCircuit_35 : decode cX2_isCircuit 35 = .ok (.iload_n 3, 1) := by decide +kernel
theorem dX2_isCircuit_36 : decode cX2_isCircuit 36 = .ok (.iconst (-1), 1) := by decide +kernel
theorem dX2_isCircuit_37 : decode cX2_isCircuit 37 = .ok (.ixor, 1) := by decide +kernel
theorem dX2_isCircuit_38 : decode cX2_isCircuit 38 = .ok (.iand, 1) := by decide +kernel
theorem dX2_isCircuit_39 : decode cX2_isCircuit 39 = .ok (.invokevirtual 67, 3) := by decide +kernel
theorem dX2_isCircuit_42 : decode cX2_isCircuit 42 = .ok (.ifCond .ne 5, 3) := by decide +kernel
theorem dX2_isCircuit_45 : decode cX2_isCircuit 45 = .ok (.iconst 0, 1) := by decide +kernel
theorem dX2_isCircuit_46 : decode cX2_isCircuit 46 = .ok (.ireturn, 1) := by decide +kernel
theorem dX2_isCircuit_47 : decode cX2_isCircuit 47 = .ok (.iinc 2 1, 3) := by decide +kernel
