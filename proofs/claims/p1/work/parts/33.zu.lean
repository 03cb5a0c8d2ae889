/-! coefficient: any arguments (printed by wip/gen/ref5.py) -/
theorem zm_27 : zMt[27]? = some (yX2_coefficientAt, cX2_coefficientAt, 8, (some .int), 2, false) := rfl
theorem zd_27 (pc : Nat) : zdec 27 pc = zdl_27.lookup pc := rfl
theorem zm_47 : zMt[47]? = some (yX2_tallyPowers, cX2_tallyPowers, 4, none, 2, false) := rfl
theorem zd_47 (pc : Nat) : zdec 47 pc = zdl_47.lookup pc := rfl
theorem zm_109 : zMt[109]? = some (yX7_choose, cX7_choose, 4, (some .int), 7, false) := rfl
theorem zd_109 (pc : Nat) : zdec 109 pc = zdl_109.lookup pc := rfl
theorem zm_156 : zMt[156]? = some (yX7_rankOf, cX7_rankOf, 3, (some .int), 7, false) := rfl
theorem zd_156 (pc : Nat) : zdec 156 pc = zdl_156.lookup pc := rfl
theorem zm_164 : zMt[164]? = some (yX7_term, cX7_term, 2, (some .int), 7, false) := rfl
theorem zd_164 (pc : Nat) : zdec 164 pc = zdl_164.lookup pc := rfl
theorem zq_2_99 : zcl 2 99 = some (4, 0, 47, 0) := by decide +kernel
theorem zq_6_119 : zcl 6 119 = some (4, 0, 27, 2) := by decide +kernel
theorem zq_7_164 : zcl 7 164 = some (3, 5, 156, 2) := by decide +kernel
theorem zq_7_209 : zcl 7 209 = some (2, 0, 109, 2) := by decide +kernel
theorem zq_7_212 : zcl 7 212 = some (2, 0, 164, 2) := by decide +kernel
theorem zqv_2_99_0 : zclv 2 99 0 = some (4, 0, 47, 0) := by decide +kernel
theorem zqv_2_99_2 : zclv 2 99 2 = some (4, 2, 47, 0) := by decide +kernel
theorem zqv_6_119_0 : zclv 6 119 0 = some (4, 0, 27, 2) := by decide +kernel
theorem zqv_6_119_2 : zclv 6 119 2 = some (4, 2, 27, 2) := by decide +kernel
theorem zqv_7_164_5 : zclv 7 164 5 = some (3, 5, 156, 2) := by decide +kernel
theorem zdQ_27_0 : zdec 27 0 = some (.aload_n 0, 1) := by decide +kernel
theorem zdQ_27_1 : zdec 27 1 = some (.invokevirtual 99, 3) := by decide +kernel
theorem zdQ_27_4 : zdec 27 4 = some (.iconst 0, 1) := by decide +kernel
theorem zdQ_27_5 : zdec 27 5 = some (.istore_n 3, 1) := by decide +kernel
theorem zdQ_27_6 : zdec 27 6 = some (.iload_n 1, 1) := by decide +kernel
theorem zdQ_27_7 : zdec 27 7 = some (.istore 4, 2) := by decide +kernel
theorem zdQ_27_9 : zdec 27 9 = some (.iload 4, 2) := by decide +kernel
theorem zdQ_27_11 : zdec 27 11 = some (.bipush 12, 2) := by decide +kernel
theorem zdQ_27_13 : zdec 27 13 = some (.if_icmp .gt 92, 3) := by decide +kernel
theorem zdQ_27_16 : zdec 27 16 = some (.iload_n 2, 1) := by decide +kernel
theorem zdQ_27_17 : zdec 27 17 = some (.istore 5, 2) := by decide +kernel
theorem zdQ_27_19 : zdec 27 19 = some (.iload 5, 2) := by decide +kernel
theorem zdQ_27_21 : zdec 27 21 = some (.bipush 12, 2) := by decide +kernel
theorem zdQ_27_23 : zdec 27 23 = some (.if_icmp .gt 76, 3) := by decide +kernel
theorem zdQ_27_26 : zdec 27 26 = some (.aload_n 0, 1) := by decide +kernel
theorem zdQ_27_27 : zdec 27 27 = some (.getfield 21, 3) := by decide +kernel
theorem zdQ_27_30 : zdec 27 30 = some (.iload 4, 2) := by decide +kernel
theorem zdQ_27_32 : zdec 27 32 = some (.bipush 13, 2) := by decide +kernel
theorem zdQ_27_34 : zdec 27 34 = some (.imul, 1) := by decide +kernel
theorem zdQ_27_35 : zdec 27 35 = some (.iload 5, 2) := by decide +kernel
theorem zdQ_27_37 : zdec 27 37 = some (.iadd, 1) := by decide +kernel
theorem zdQ_27_38 : zdec 27 38 = some (.iaload, 1) := by decide +kernel
theorem zdQ_27_39 : zdec 27 39 = some (.istore 6, 2) := by decide +kernel
theorem zdQ_27_41 : zdec 27 41 = some (.iload 6, 2) := by decide +kernel
theorem zdQ_27_43 : zdec 27 43 = some (.ifCond .ne 7, 3) := by decide +kernel
theorem zdQ_27_46 : zdec 27 46 = some (.iconst 0, 1) := by decide +kernel
theorem zdQ_27_47 : zdec 27 47 = some (.goto 19, 3) := by decide +kernel
theorem zdQ_27_66 : zdec 27 66 = some (.istore 7, 2) := by decide +kernel
theorem zdQ_27_68 : zdec 27 68 = some (.iload_n 3, 1) := by decide +kernel
theorem zdQ_27_69 : zdec 27 69 = some (.iload 4, 2) := by decide +kernel
theorem zdQ_27_71 : zdec 27 71 = some (.iload_n 1, 1) := by decide +kernel
theorem zdQ_27_72 : zdec 27 72 = some (.isub, 1) := by decide +kernel
theorem zdQ_27_73 : zdec 27 73 = some (.iload 5, 2) := by decide +kernel
theorem zdQ_27_75 : zdec 27 75 = some (.iadd, 1) := by decide +kernel
theorem zdQ_27_76 : zdec 27 76 = some (.iload_n 2, 1) := by decide +kernel
theorem zdQ_27_77 : zdec 27 77 = some (.isub, 1) := by decide +kernel
theorem zdQ_27_78 : zdec 27 78 = some (.iconst 1, 1) := by decide +kernel
theorem zdQ_27_79 : zdec 27 79 = some (.iand, 1) := by decide +kernel
theorem zdQ_27_80 : zdec 27 80 = some (.ifCond .ne 8, 3) := by decide +kernel
theorem zdQ_27_83 : zdec 27 83 = some (.iload 7, 2) := by decide +kernel
theorem zdQ_27_85 : zdec 27 85 = some (.goto 6, 3) := by decide +kernel
theorem zdQ_27_88 : zdec 27 88 = some (.iload 7, 2) := by decide +kernel
theorem zdQ_27_90 : zdec 27 90 = some (.ineg, 1) := by decide +kernel
theorem zdQ_27_91 : zdec 27 91 = some (.iadd, 1) := by decide +kernel
theorem zdQ_27_92 : zdec 27 92 = some (.istore_n 3, 1) := by decide +kernel
theorem zdQ_27_93 : zdec 27 93 = some (.iinc 5 1, 3) := by decide +kernel
theorem zdQ_27_96 : zdec 27 96 = some (.goto (-77), 3) := by decide +kernel
theorem zdQ_27_99 : zdec 27 99 = some (.iinc 4 1, 3) := by decide +kernel
theorem zdQ_27_102 : zdec 27 102 = some (.goto (-93), 3) := by decide +kernel
theorem zdQ_27_105 : zdec 27 105 = some (.iload_n 3, 1) := by decide +kernel
theorem zdQ_27_106 : zdec 27 106 = some (.ireturn, 1) := by decide +kernel
theorem zdQ_78_0 : zdec 78 0 = some (.aload_n 0, 1) := by decide +kernel
theorem zdQ_78_1 : zdec 78 1 = some (.iload_n 1, 1) := by decide +kernel
theorem zdQ_78_2 : zdec 78 2 = some (.invokevirtual 82, 3) := by decide +kernel
theorem zdQ_78_5 : zdec 78 5 = some (.astore 4, 2) := by decide +kernel
theorem zdQ_78_7 : zdec 78 7 = some (.aload 4, 2) := by decide +kernel
theorem zdQ_78_9 : zdec 78 9 = some (.ifnonnull 6, 3) := by decide +kernel
theorem zdQ_78_15 : zdec 78 15 = some (.iload_n 2, 1) := by decide +kernel
theorem zdQ_78_16 : zdec 78 16 = some (.ifCond .lt 19, 3) := by decide +kernel
theorem zdQ_78_19 : zdec 78 19 = some (.iload_n 2, 1) := by decide +kernel
theorem zdQ_78_20 : zdec 78 20 = some (.bipush 12, 2) := by decide +kernel
theorem zdQ_78_22 : zdec 78 22 = some (.if_icmp .gt 13, 3) := by decide +kernel
theorem zdQ_78_25 : zdec 78 25 = some (.iload_n 3, 1) := by decide +kernel
theorem zdQ_78_26 : zdec 78 26 = some (.ifCond .lt 9, 3) := by decide +kernel
theorem zdQ_78_29 : zdec 78 29 = some (.iload_n 3, 1) := by decide +kernel
theorem zdQ_78_30 : zdec 78 30 = some (.bipush 12, 2) := by decide +kernel
theorem zdQ_78_32 : zdec 78 32 = some (.if_icmp .le 5, 3) := by decide +kernel
theorem zdQ_78_35 : zdec 78 35 = some (.iconst 0, 1) := by decide +kernel
theorem zdQ_78_36 : zdec 78 36 = some (.ireturn, 1) := by decide +kernel
theorem zdQ_78_37 : zdec 78 37 = some (.aload 4, 2) := by decide +kernel
theorem zdQ_78_39 : zdec 78 39 = some (.iload_n 2, 1) := by decide +kernel
theorem zdQ_78_40 : zdec 78 40 = some (.iload_n 3, 1) := by decide +kernel
theorem zdQ_78_41 : zdec 78 41 = some (.invokevirtual 119, 3) := by decide +kernel
theorem zdQ_78_44 : zdec 78 44 = some (.ireturn, 1) := by decide +kernel
theorem zdQ_109_0 : zdec 109 0 = some (.iconst 1, 1) := by decide +kernel
theorem zdQ_109_1 : zdec 109 1 = some (.istore_n 2, 1) := by decide +kernel
theorem zdQ_109_2 : zdec 109 2 = some (.iconst 0, 1) := by decide +kernel
theorem zdQ_109_3 : zdec 109 3 = some (.istore_n 3, 1) := by decide +kernel
theorem zdQ_109_4 : zdec 109 4 = some (.iload_n 3, 1) := by decide +kernel
theorem zdQ_109_5 : zdec 109 5 = some (.iload_n 1, 1) := by decide +kernel
theorem zdQ_109_6 : zdec 109 6 = some (.if_icmp .ge 19, 3) := by decide +kernel
theorem zdQ_109_25 : zdec 109 25 = some (.iload_n 2, 1) := by decide +kernel
theorem zdQ_109_26 : zdec 109 26 = some (.ireturn, 1) := by decide +kernel
theorem zdQ_114_0 : zdec 114 0 = some (.aload_n 0, 1) := by decide +kernel
theorem zdQ_114_1 : zdec 114 1 = some (.iload_n 1, 1) := by decide +kernel
theorem zdQ_114_2 : zdec 114 2 = some (.invokevirtual 158, 3) := by decide +kernel
theorem zdQ_114_5 : zdec 114 5 = some (.ifCond .ne 6, 3) := by decide +kernel
theorem zdQ_114_11 : zdec 114 11 = some (.iload_n 2, 1) := by decide +kernel
theorem zdQ_114_12 : zdec 114 12 = some (.ifCond .lt 7, 3) := by decide +kernel
theorem zdQ_114_15 : zdec 114 15 = some (.iload_n 3, 1) := by decide +kernel
theorem zdQ_114_16 : zdec 114 16 = some (.ifCond .ge 5, 3) := by decide +kernel
theorem zdQ_114_19 : zdec 114 19 = some (.iconst 0, 1) := by decide +kernel
theorem zdQ_114_20 : zdec 114 20 = some (.ireturn, 1) := by decide +kernel
theorem zdQ_114_21 : zdec 114 21 = some (.iconst 0, 1) := by decide +kernel
theorem zdQ_114_22 : zdec 114 22 = some (.istore 4, 2) := by decide +kernel
theorem zdQ_114_24 : zdec 114 24 = some (.iconst 0, 1) := by decide +kernel
theorem zdQ_114_25 : zdec 114 25 = some (.istore 5, 2) := by decide +kernel
theorem zdQ_114_27 : zdec 114 27 = some (.iload 5, 2) := by decide +kernel
theorem zdQ_114_29 : zdec 114 29 = some (.aload_n 0, 1) := by decide +kernel
theorem zdQ_114_30 : zdec 114 30 = some (.invokevirtual 151, 3) := by decide +kernel
theorem zdQ_114_33 : zdec 114 33 = some (.if_icmp .gt 53, 3) := by decide +kernel
theorem zdQ_114_36 : zdec 114 36 = some (.iload 4, 2) := by decide +kernel
theorem zdQ_114_38 : zdec 114 38 = some (.aload_n 0, 1) := by decide +kernel
theorem zdQ_114_39 : zdec 114 39 = some (.iload_n 1, 1) := by decide +kernel
theorem zdQ_114_40 : zdec 114 40 = some (.aload_n 0, 1) := by decide +kernel
theorem zdQ_114_41 : zdec 114 41 = some (.invokevirtual 151, 3) := by decide +kernel
theorem zdQ_114_44 : zdec 114 44 = some (.invokevirtual 164, 3) := by decide +kernel
theorem zdQ_114_47 : zdec 114 47 = some (.aload_n 0, 1) := by decide +kernel
theorem zdQ_114_48 : zdec 114 48 = some (.iload_n 1, 1) := by decide +kernel
theorem zdQ_114_49 : zdec 114 49 = some (.iload 5, 2) := by decide +kernel
theorem zdQ_114_51 : zdec 114 51 = some (.invokevirtual 164, 3) := by decide +kernel
theorem zdQ_114_54 : zdec 114 54 = some (.isub, 1) := by decide +kernel
theorem zdQ_114_55 : zdec 114 55 = some (.iload_n 2, 1) := by decide +kernel
theorem zdQ_114_56 : zdec 114 56 = some (.invokestatic 212, 3) := by decide +kernel
theorem zdQ_114_59 : zdec 114 59 = some (.iload 5, 2) := by decide +kernel
theorem zdQ_114_61 : zdec 114 61 = some (.invokestatic 126, 3) := by decide +kernel
theorem zdQ_114_64 : zdec 114 64 = some (.aload_n 0, 1) := by decide +kernel
theorem zdQ_114_65 : zdec 114 65 = some (.iload_n 1, 1) := by decide +kernel
theorem zdQ_114_66 : zdec 114 66 = some (.iload 5, 2) := by decide +kernel
theorem zdQ_114_68 : zdec 114 68 = some (.invokevirtual 164, 3) := by decide +kernel
theorem zdQ_114_71 : zdec 114 71 = some (.isub, 1) := by decide +kernel
theorem zdQ_114_72 : zdec 114 72 = some (.iload_n 3, 1) := by decide +kernel
theorem zdQ_114_73 : zdec 114 73 = some (.invokestatic 212, 3) := by decide +kernel
theorem zdQ_114_76 : zdec 114 76 = some (.imul, 1) := by decide +kernel
theorem zdQ_114_77 : zdec 114 77 = some (.iadd, 1) := by decide +kernel
theorem zdQ_114_78 : zdec 114 78 = some (.istore 4, 2) := by decide +kernel
theorem zdQ_114_80 : zdec 114 80 = some (.iinc 5 1, 3) := by decide +kernel
theorem zdQ_114_83 : zdec 114 83 = some (.goto (-56), 3) := by decide +kernel
theorem zdQ_114_86 : zdec 114 86 = some (.iload 4, 2) := by decide +kernel
theorem zdQ_114_88 : zdec 114 88 = some (.ireturn, 1) := by decide +kernel
theorem zdQ_164_0 : zdec 164 0 = some (.iload_n 1, 1) := by decide +kernel
theorem zdQ_164_1 : zdec 164 1 = some (.iload_n 0, 1) := by decide +kernel
theorem zdQ_164_2 : zdec 164 2 = some (.if_icmp .le 7, 3) := by decide +kernel
theorem zdQ_164_5 : zdec 164 5 = some (.iconst 0, 1) := by decide +kernel
theorem zdQ_164_6 : zdec 164 6 = some (.goto 25, 3) := by decide +kernel
theorem zdQ_164_9 : zdec 164 9 = some (.iload_n 0, 1) := by decide +kernel
theorem zdQ_164_10 : zdec 164 10 = some (.iload_n 1, 1) := by decide +kernel
theorem zdQ_164_11 : zdec 164 11 = some (.isub, 1) := by decide +kernel
theorem zdQ_164_12 : zdec 164 12 = some (.iconst 2, 1) := by decide +kernel
theorem zdQ_164_13 : zdec 164 13 = some (.irem, 1) := by decide +kernel
theorem zdQ_164_14 : zdec 164 14 = some (.ifCond .ne 11, 3) := by decide +kernel
theorem zdQ_164_17 : zdec 164 17 = some (.iload_n 0, 1) := by decide +kernel
theorem zdQ_164_18 : zdec 164 18 = some (.iload_n 1, 1) := by decide +kernel
theorem zdQ_164_19 : zdec 164 19 = some (.invokestatic 209, 3) := by decide +kernel
theorem zdQ_164_22 : zdec 164 22 = some (.goto 9, 3) := by decide +kernel
theorem zdQ_164_31 : zdec 164 31 = some (.ireturn, 1) := by decide +kernel
theorem zt_ial {d mi pc mL o a N : Nat} {L : zL} {w w' : zW} {r : Option Value} {y : MethodName} {b : ByteArray} {ret : Option FieldType} {ini : Bool} {f : Nat → Int32} {x : Int32} {rr : List Value} {pc' : Nat} (hd : zdec mi pc = some (.iaload, 1)) (hM : zMt[mi]? = some (y, b, mL, ret, o, ini)) (hp : pc + 1 = pc') (ha : w.1 a = some (.inl (0, N, .inl f))) (hi : zbd x N = true) (kk : zev d mi pc' L (.int (f x.toNatClampNeg) :: rr) w r w') : zev d mi pc L (.int x :: .ref a :: rr) w r w' := by
  subst hp
  exact zev_iald hM (zdec_ok hM hd) ha hi kk
theorem zt_ifB {d mi pc mL o tgt : Nat} {L : zL} {w w' : zW} {r : Option Value} {y : MethodName} {b : ByteArray} {ret : Option FieldType} {ini : Bool} {pc' : Nat} {rr : List Value} {c : Jvm.ClassFile.Cond} {off : Int} {x : Int32} (hd : zdec mi pc = some (.ifCond c off, 3)) (hM : zMt[mi]? = some (y, b, mL, ret, o, ini)) (ht : (pc : Int) + off = (tgt : Int)) (hp : pc + 3 = pc') (kt : zev d mi tgt L rr w r w') (kf : zev d mi pc' L rr w r w') : zev d mi pc L (.int x :: rr) w r w' := zev_if tgt hM (zdec_ok hM hd) ht (fun _ => kt) (fun _ => hp ▸ kf)
set_option maxHeartbeats 8000000 in
theorem zr_co0 {w1 : zW} {za : Nat} {s i j : Int32} (hm : zmet 39 91 [.ref 1, .int s] zx4 (some (.ref za)) w1) (h : i < 0 ∨ 12 < i ∨ j < 0 ∨ 12 < j) : zmet (40) 78 [.ref 1, .int s, .int i, .int j] zx4 (some (.int 0)) w1 := by
  refine ⟨_, rfl, Nat.le_of_ble_eq_true rfl, ?_⟩
  show zev (40) 78 0 [some (.ref 1), some (.int s), some (.int i), some (.int j), none] [] zx4 _ _
  by_cases h1 : i < 0
  · refine zt (pc' := 1) zdQ_78_0 zm_78 rfl rfl ?_
    refine zt (pc' := 2) zdQ_78_1 zm_78 rfl rfl ?_
    refine zt_V (pc' := 5) zdQ_78_2 zm_78 rfl zq_6_82 rfl (Nat.le_of_ble_eq_true rfl) zx4_1 zqv_6_82_4 (by decide) rfl (hm) ?_
    refine zt (pc' := 7) zdQ_78_5 zm_78 rfl rfl ?_
    show zev _ _ _ [_, _, _, _, _] _ _ _ _
    refine zt (pc' := 9) zdQ_78_7 zm_78 rfl rfl ?_
    refine zt (pc' := 15) zdQ_78_9 zm_78 rfl rfl ?_
    refine zt (pc' := 16) zdQ_78_15 zm_78 rfl rfl ?_
    refine zt_ifT (tgt := 35) (pc' := 19) zdQ_78_16 zm_78 rfl rfl (zlt h1) ?_
    refine zt (pc' := 36) zdQ_78_35 zm_78 rfl rfl ?_
    exact zte zdQ_78_36 zm_78 rfl
  · by_cases h2 : 12 < i
    · refine zt (pc' := 1) zdQ_78_0 zm_78 rfl rfl ?_
      refine zt (pc' := 2) zdQ_78_1 zm_78 rfl rfl ?_
      refine zt_V (pc' := 5) zdQ_78_2 zm_78 rfl zq_6_82 rfl (Nat.le_of_ble_eq_true rfl) zx4_1 zqv_6_82_4 (by decide) rfl (hm) ?_
      refine zt (pc' := 7) zdQ_78_5 zm_78 rfl rfl ?_
      show zev _ _ _ [_, _, _, _, _] _ _ _ _
      refine zt (pc' := 9) zdQ_78_7 zm_78 rfl rfl ?_
      refine zt (pc' := 15) zdQ_78_9 zm_78 rfl rfl ?_
      refine zt (pc' := 16) zdQ_78_15 zm_78 rfl rfl ?_
      refine zt_ifF (tgt := 35) (pc' := 19) zdQ_78_16 zm_78 rfl rfl (znlt h1) ?_
      refine zt (pc' := 20) zdQ_78_19 zm_78 rfl rfl ?_
      refine zt (pc' := 22) zdQ_78_20 zm_78 rfl rfl ?_
      refine zt_icT (tgt := 35) (pc' := 25) zdQ_78_22 zm_78 rfl rfl (zgt h2) ?_
      refine zt (pc' := 36) zdQ_78_35 zm_78 rfl rfl ?_
      exact zte zdQ_78_36 zm_78 rfl
    · by_cases h3 : j < 0
      · refine zt (pc' := 1) zdQ_78_0 zm_78 rfl rfl ?_
        refine zt (pc' := 2) zdQ_78_1 zm_78 rfl rfl ?_
        refine zt_V (pc' := 5) zdQ_78_2 zm_78 rfl zq_6_82 rfl (Nat.le_of_ble_eq_true rfl) zx4_1 zqv_6_82_4 (by decide) rfl (hm) ?_
        refine zt (pc' := 7) zdQ_78_5 zm_78 rfl rfl ?_
        show zev _ _ _ [_, _, _, _, _] _ _ _ _
        refine zt (pc' := 9) zdQ_78_7 zm_78 rfl rfl ?_
        refine zt (pc' := 15) zdQ_78_9 zm_78 rfl rfl ?_
        refine zt (pc' := 16) zdQ_78_15 zm_78 rfl rfl ?_
        refine zt_ifF (tgt := 35) (pc' := 19) zdQ_78_16 zm_78 rfl rfl (znlt h1) ?_
        refine zt (pc' := 20) zdQ_78_19 zm_78 rfl rfl ?_
        refine zt (pc' := 22) zdQ_78_20 zm_78 rfl rfl ?_
        refine zt_icF (tgt := 35) (pc' := 25) zdQ_78_22 zm_78 rfl rfl (zngt h2) ?_
        refine zt (pc' := 26) zdQ_78_25 zm_78 rfl rfl ?_
        refine zt_ifT (tgt := 35) (pc' := 29) zdQ_78_26 zm_78 rfl rfl (zlt h3) ?_
        refine zt (pc' := 36) zdQ_78_35 zm_78 rfl rfl ?_
        exact zte zdQ_78_36 zm_78 rfl
      · have h4 : ¬ j ≤ 12 := by
          rcases h with h | h | h | h
          · exact absurd h h1
          · exact absurd h h2
          · exact absurd h h3
          · exact Int32.not_le.mpr h
        refine zt (pc' := 1) zdQ_78_0 zm_78 rfl rfl ?_
        refine zt (pc' := 2) zdQ_78_1 zm_78 rfl rfl ?_
        refine zt_V (pc' := 5) zdQ_78_2 zm_78 rfl zq_6_82 rfl (Nat.le_of_ble_eq_true rfl) zx4_1 zqv_6_82_4 (by decide) rfl (hm) ?_
        refine zt (pc' := 7) zdQ_78_5 zm_78 rfl rfl ?_
        show zev _ _ _ [_, _, _, _, _] _ _ _ _
        refine zt (pc' := 9) zdQ_78_7 zm_78 rfl rfl ?_
        refine zt (pc' := 15) zdQ_78_9 zm_78 rfl rfl ?_
        refine zt (pc' := 16) zdQ_78_15 zm_78 rfl rfl ?_
        refine zt_ifF (tgt := 35) (pc' := 19) zdQ_78_16 zm_78 rfl rfl (znlt h1) ?_
        refine zt (pc' := 20) zdQ_78_19 zm_78 rfl rfl ?_
        refine zt (pc' := 22) zdQ_78_20 zm_78 rfl rfl ?_
        refine zt_icF (tgt := 35) (pc' := 25) zdQ_78_22 zm_78 rfl rfl (zngt h2) ?_
        refine zt (pc' := 26) zdQ_78_25 zm_78 rfl rfl ?_
        refine zt_ifF (tgt := 35) (pc' := 29) zdQ_78_26 zm_78 rfl rfl (znlt h3) ?_
        refine zt (pc' := 30) zdQ_78_29 zm_78 rfl rfl ?_
        refine zt (pc' := 32) zdQ_78_30 zm_78 rfl rfl ?_
        refine zt_icF (tgt := 37) (pc' := 35) zdQ_78_32 zm_78 rfl rfl (znle h4) ?_
        refine zt (pc' := 36) zdQ_78_35 zm_78 rfl rfl ?_
        exact zte zdQ_78_36 zm_78 rfl
theorem zr_co_0 {w1 w2 : zW} {za : Nat} {s i j v : Int32} (hm : zmet 39 91 [.ref 1, .int s] zx4 (some (.ref za)) w1) {g1 : List Value} (z1 : w1.1 za = some (.inr (0, .ref 2 :: g1))) (h1 : ¬ i < 0) (h2 : ¬ 12 < i) (h3 : ¬ j < 0) (h4 : j ≤ 12) (hc : zmet 39 27 [.ref za, .int i, .int j] w1 (some (.int v)) w2) : zmet (40) 78 [.ref 1, .int s, .int i, .int j] zx4 (some (.int v)) w2 := by
  refine ⟨_, rfl, Nat.le_of_ble_eq_true rfl, ?_⟩
  show zev (40) 78 0 [some (.ref 1), some (.int s), some (.int i), some (.int j), none] [] zx4 _ _
  refine zt (pc' := 1) zdQ_78_0 zm_78 rfl rfl ?_
  refine zt (pc' := 2) zdQ_78_1 zm_78 rfl rfl ?_
  refine zt_V (pc' := 5) zdQ_78_2 zm_78 rfl zq_6_82 rfl (Nat.le_of_ble_eq_true rfl) zx4_1 zqv_6_82_4 (by decide) rfl (hm) ?_
  refine zt (pc' := 7) zdQ_78_5 zm_78 rfl rfl ?_
  show zev _ _ _ [_, _, _, _, _] _ _ _ _
  refine zt (pc' := 9) zdQ_78_7 zm_78 rfl rfl ?_
  refine zt (pc' := 15) zdQ_78_9 zm_78 rfl rfl ?_
  refine zt (pc' := 16) zdQ_78_15 zm_78 rfl rfl ?_
  refine zt_ifF (tgt := 35) (pc' := 19) zdQ_78_16 zm_78 rfl rfl (znlt h1) ?_
  refine zt (pc' := 20) zdQ_78_19 zm_78 rfl rfl ?_
  refine zt (pc' := 22) zdQ_78_20 zm_78 rfl rfl ?_
  refine zt_icF (tgt := 35) (pc' := 25) zdQ_78_22 zm_78 rfl rfl (zngt h2) ?_
  refine zt (pc' := 26) zdQ_78_25 zm_78 rfl rfl ?_
  refine zt_ifF (tgt := 35) (pc' := 29) zdQ_78_26 zm_78 rfl rfl (znlt h3) ?_
  refine zt (pc' := 30) zdQ_78_29 zm_78 rfl rfl ?_
  refine zt (pc' := 32) zdQ_78_30 zm_78 rfl rfl ?_
  refine zt_icT (tgt := 37) (pc' := 35) zdQ_78_32 zm_78 rfl rfl (zle' h4) ?_
  refine zt (pc' := 39) zdQ_78_37 zm_78 rfl rfl ?_
  refine zt (pc' := 40) zdQ_78_39 zm_78 rfl rfl ?_
  refine zt (pc' := 41) zdQ_78_40 zm_78 rfl rfl ?_
  refine zt_V (pc' := 44) zdQ_78_41 zm_78 rfl zq_6_119 rfl (Nat.le_of_ble_eq_true rfl) z1 zqv_6_119_0 (by decide) rfl (hc) ?_
  exact zte zdQ_78_44 zm_78 rfl
theorem zr_co_2 {w1 w2 : zW} {za : Nat} {s i j v : Int32} (hm : zmet 39 91 [.ref 1, .int s] zx4 (some (.ref za)) w1) {g1 : List Value} (z1 : w1.1 za = some (.inr (2, .ref 2 :: g1))) (h1 : ¬ i < 0) (h2 : ¬ 12 < i) (h3 : ¬ j < 0) (h4 : j ≤ 12) (hc : zmet 39 27 [.ref za, .int i, .int j] w1 (some (.int v)) w2) : zmet (40) 78 [.ref 1, .int s, .int i, .int j] zx4 (some (.int v)) w2 := by
  refine ⟨_, rfl, Nat.le_of_ble_eq_true rfl, ?_⟩
  show zev (40) 78 0 [some (.ref 1), some (.int s), some (.int i), some (.int j), none] [] zx4 _ _
  refine zt (pc' := 1) zdQ_78_0 zm_78 rfl rfl ?_
  refine zt (pc' := 2) zdQ_78_1 zm_78 rfl rfl ?_
  refine zt_V (pc' := 5) zdQ_78_2 zm_78 rfl zq_6_82 rfl (Nat.le_of_ble_eq_true rfl) zx4_1 zqv_6_82_4 (by decide) rfl (hm) ?_
  refine zt (pc' := 7) zdQ_78_5 zm_78 rfl rfl ?_
  show zev _ _ _ [_, _, _, _, _] _ _ _ _
  refine zt (pc' := 9) zdQ_78_7 zm_78 rfl rfl ?_
  refine zt (pc' := 15) zdQ_78_9 zm_78 rfl rfl ?_
  refine zt (pc' := 16) zdQ_78_15 zm_78 rfl rfl ?_
  refine zt_ifF (tgt := 35) (pc' := 19) zdQ_78_16 zm_78 rfl rfl (znlt h1) ?_
  refine zt (pc' := 20) zdQ_78_19 zm_78 rfl rfl ?_
  refine zt (pc' := 22) zdQ_78_20 zm_78 rfl rfl ?_
  refine zt_icF (tgt := 35) (pc' := 25) zdQ_78_22 zm_78 rfl rfl (zngt h2) ?_
  refine zt (pc' := 26) zdQ_78_25 zm_78 rfl rfl ?_
  refine zt_ifF (tgt := 35) (pc' := 29) zdQ_78_26 zm_78 rfl rfl (znlt h3) ?_
  refine zt (pc' := 30) zdQ_78_29 zm_78 rfl rfl ?_
  refine zt (pc' := 32) zdQ_78_30 zm_78 rfl rfl ?_
  refine zt_icT (tgt := 37) (pc' := 35) zdQ_78_32 zm_78 rfl rfl (zle' h4) ?_
  refine zt (pc' := 39) zdQ_78_37 zm_78 rfl rfl ?_
  refine zt (pc' := 40) zdQ_78_39 zm_78 rfl rfl ?_
  refine zt (pc' := 41) zdQ_78_40 zm_78 rfl rfl ?_
  refine zt_V (pc' := 44) zdQ_78_41 zm_78 rfl zq_6_119 rfl (Nat.le_of_ble_eq_true rfl) z1 zqv_6_119_2 (by decide) rfl (hc) ?_
  exact zte zdQ_78_44 zm_78 rfl
theorem zr_inc : ∀ q, q < 13 → Int32.ofNat q + 1 = Int32.ofNat (q + 1) := by decide +kernel
theorem zr_g0 : ∀ q, q < 13 → ¬ (12 : Int32) < Int32.ofNat q := by decide +kernel
theorem zr_ix : ∀ p, p < 13 → ∀ q, q < 13 → zbd (Int32.ofNat p * 13 + Int32.ofNat q) 169 = true ∧ (Int32.ofNat p * 13 + Int32.ofNat q).toNatClampNeg = p * 13 + q := by decide +kernel
theorem zr_cg {d : Nat} {w w' : zW} {r : Option Value} {z i j p x6 x7 : Option Value} {a a' b b' : Int32} (ha : a = a') (hb : b = b') (h : zev d 27 19 [z, i, j, some (.int a'), p, some (.int b'), x6, x7] [] w r w') : zev d 27 19 [z, i, j, some (.int a), p, some (.int b), x6, x7] [] w r w' := by
  subst ha
  subst hb
  exact h
theorem zr_cg2 {d : Nat} {w w' : zW} {r : Option Value} {z i j m x5 x6 x7 : Option Value} {a a' : Int32} (ha : a = a') (h : zev d 27 9 [z, i, j, m, some (.int a'), x5, x6, x7] [] w r w') : zev d 27 9 [z, i, j, m, some (.int a), x5, x6, x7] [] w r w' := by
  subst ha
  exact h
theorem zr_n0 (x : Int32) : x + -(0 : Int32) = x := by
  rw [show -(0 : Int32) = 0 by decide, Int32.add_zero]
set_option maxHeartbeats 8000000 in
theorem zr_in_0 {d : Nat} {w w' : zW} {r : Option Value} {za ta p : Nat} {i j sm : Int32} {f : Nat → Int32} {a1 a2 a3 : Value} {g : List Value} (z : w.1 za = some (.inr (0, .ref 2 :: a1 :: a2 :: a3 :: .ref ta :: g))) (A : w.1 ta = some (.inl (0, 169, .inl f))) (hf : ∀ n, n < 168 → f (n + 1) = 0) (hp : p < 13) (kk : ∀ x5 x6 x7 : Option Value, zev d 27 99 [some (.ref za), some (.int i), some (.int j), some (.int sm), some (.int (Int32.ofNat p)), x5, x6, x7] [] w r w') : ∀ (m q : Nat), q + m = 13 → (0 < p ∨ 0 < q) → ∀ x6 x7 : Option Value, zev d 27 19 [some (.ref za), some (.int i), some (.int j), some (.int sm), some (.int (Int32.ofNat p)), some (.int (Int32.ofNat q)), x6, x7] [] w r w'
  | 0, q, hqm, hpq, x6, x7 => by
    have e : q = 13 := by omega
    subst e
    refine zt (pc' := 21) zdQ_27_19 zm_27 rfl rfl ?_
    refine zt (pc' := 23) zdQ_27_21 zm_27 rfl rfl ?_
    refine zt_icT (tgt := 99) (pc' := 26) zdQ_27_23 zm_27 rfl rfl (zgt (by decide)) ?_
    exact kk _ _ _
  | m + 1, q, hqm, hpq, x6, x7 => by
    have hq : q < 13 := by omega
    have hv : f (Int32.ofNat p * 13 + Int32.ofNat q).toNatClampNeg = 0 := by
      rw [(zr_ix p hp q hq).2]
      have e : p * 13 + q = (p * 13 + q - 1) + 1 := by omega
      rw [e]
      exact hf _ (by omega)
    have ih := zr_in_0 z A hf hp kk m (q + 1) (by omega) (Or.inr (by omega))
    refine zt (pc' := 21) zdQ_27_19 zm_27 rfl rfl ?_
    refine zt (pc' := 23) zdQ_27_21 zm_27 rfl rfl ?_
    refine zt_icF (tgt := 99) (pc' := 26) zdQ_27_23 zm_27 rfl rfl (zngt (zr_g0 q hq)) ?_
    refine zt (pc' := 27) zdQ_27_26 zm_27 rfl rfl ?_
    refine zt_get (pc' := 30) zdQ_27_27 zm_27 rfl rfl z (by decide) rfl ?_
    refine zt (pc' := 32) zdQ_27_30 zm_27 rfl rfl ?_
    refine zt (pc' := 34) zdQ_27_32 zm_27 rfl rfl ?_
    refine zt (pc' := 35) zdQ_27_34 zm_27 rfl rfl ?_
    refine zt (pc' := 37) zdQ_27_35 zm_27 rfl rfl ?_
    refine zt (pc' := 38) zdQ_27_37 zm_27 rfl rfl ?_
    refine zt_ial (pc' := 39) zdQ_27_38 zm_27 rfl A (zr_ix p hp q hq).1 ?_
    refine zt (pc' := 41) zdQ_27_39 zm_27 rfl rfl ?_
    show zev _ _ _ [_, _, _, _, _, _, _, _] _ _ _ _
    refine zt (pc' := 43) zdQ_27_41 zm_27 rfl rfl ?_
    refine zt_ifF (tgt := 50) (pc' := 46) zdQ_27_43 zm_27 rfl rfl (znne hv) ?_
    refine zt (pc' := 47) zdQ_27_46 zm_27 rfl rfl ?_
    refine zt (pc' := 66) zdQ_27_47 zm_27 rfl rfl ?_
    refine zt (pc' := 68) zdQ_27_66 zm_27 rfl rfl ?_
    show zev _ _ _ [_, _, _, _, _, _, _, _] _ _ _ _
    refine zt (pc' := 69) zdQ_27_68 zm_27 rfl rfl ?_
    refine zt (pc' := 71) zdQ_27_69 zm_27 rfl rfl ?_
    refine zt (pc' := 72) zdQ_27_71 zm_27 rfl rfl ?_
    refine zt (pc' := 73) zdQ_27_72 zm_27 rfl rfl ?_
    refine zt (pc' := 75) zdQ_27_73 zm_27 rfl rfl ?_
    refine zt (pc' := 76) zdQ_27_75 zm_27 rfl rfl ?_
    refine zt (pc' := 77) zdQ_27_76 zm_27 rfl rfl ?_
    refine zt (pc' := 78) zdQ_27_77 zm_27 rfl rfl ?_
    refine zt (pc' := 79) zdQ_27_78 zm_27 rfl rfl ?_
    refine zt (pc' := 80) zdQ_27_79 zm_27 rfl rfl ?_
    refine zt_ifB (tgt := 88) (pc' := 83) zdQ_27_80 zm_27 rfl rfl ?_ ?_
    · refine zt (pc' := 90) zdQ_27_88 zm_27 rfl rfl ?_
      refine zt (pc' := 91) zdQ_27_90 zm_27 rfl rfl ?_
      refine zt (pc' := 92) zdQ_27_91 zm_27 rfl rfl ?_
      refine zt (pc' := 93) zdQ_27_92 zm_27 rfl rfl ?_
      show zev _ _ _ [_, _, _, _, _, _, _, _] _ _ _ _
      refine zt (pc' := 96) zdQ_27_93 zm_27 rfl rfl ?_
      show zev _ _ _ [_, _, _, _, _, _, _, _] _ _ _ _
      refine zt (pc' := 19) zdQ_27_96 zm_27 rfl rfl ?_
      exact zr_cg (zr_n0 sm) (zr_inc q hq) (ih _ _)
    · refine zt (pc' := 85) zdQ_27_83 zm_27 rfl rfl ?_
      refine zt (pc' := 91) zdQ_27_85 zm_27 rfl rfl ?_
      refine zt (pc' := 92) zdQ_27_91 zm_27 rfl rfl ?_
      refine zt (pc' := 93) zdQ_27_92 zm_27 rfl rfl ?_
      show zev _ _ _ [_, _, _, _, _, _, _, _] _ _ _ _
      refine zt (pc' := 96) zdQ_27_93 zm_27 rfl rfl ?_
      show zev _ _ _ [_, _, _, _, _, _, _, _] _ _ _ _
      refine zt (pc' := 19) zdQ_27_96 zm_27 rfl rfl ?_
      exact zr_cg (Int32.add_zero sm) (zr_inc q hq) (ih _ _)
theorem zr_out_0 {d : Nat} {w : zW} {za ta jn : Nat} {i sm : Int32} {f : Nat → Int32} {a1 a2 a3 : Value} {g : List Value} (z : w.1 za = some (.inr (0, .ref 2 :: a1 :: a2 :: a3 :: .ref ta :: g))) (A : w.1 ta = some (.inl (0, 169, .inl f))) (hf : ∀ n, n < 168 → f (n + 1) = 0) (hj : jn < 13) : ∀ (m p : Nat), p + m = 13 → (0 < p ∨ 0 < jn) → ∀ x5 x6 x7 : Option Value, zev d 27 9 [some (.ref za), some (.int i), some (.int (Int32.ofNat jn)), some (.int sm), some (.int (Int32.ofNat p)), x5, x6, x7] [] w (some (.int sm)) w
  | 0, p, hpm, hpj, x5, x6, x7 => by
    have e : p = 13 := by omega
    subst e
    refine zt (pc' := 11) zdQ_27_9 zm_27 rfl rfl ?_
    refine zt (pc' := 13) zdQ_27_11 zm_27 rfl rfl ?_
    refine zt_icT (tgt := 105) (pc' := 16) zdQ_27_13 zm_27 rfl rfl (zgt (by decide)) ?_
    refine zt (pc' := 106) zdQ_27_105 zm_27 rfl rfl ?_
    exact zte zdQ_27_106 zm_27 rfl
  | m + 1, p, hpm, hpj, x5, x6, x7 => by
    have hp : p < 13 := by omega
    have ih := zr_out_0 (d := d) (i := i) (sm := sm) z A hf hj m (p + 1) (by omega) (Or.inl (by omega))
    refine zt (pc' := 11) zdQ_27_9 zm_27 rfl rfl ?_
    refine zt (pc' := 13) zdQ_27_11 zm_27 rfl rfl ?_
    refine zt_icF (tgt := 105) (pc' := 16) zdQ_27_13 zm_27 rfl rfl (zngt (zr_g0 p hp)) ?_
    refine zt (pc' := 17) zdQ_27_16 zm_27 rfl rfl ?_
    refine zt (pc' := 19) zdQ_27_17 zm_27 rfl rfl ?_
    show zev _ _ _ [_, _, _, _, _, _, _, _] _ _ _ _
    refine zr_in_0 z A hf hp (fun x5 x6 x7 => ?_) (13 - jn) jn (by omega) hpj _ _
    refine zt (pc' := 102) zdQ_27_99 zm_27 rfl rfl ?_
    show zev _ _ _ [_, _, _, _, _, _, _, _] _ _ _ _
    refine zt (pc' := 9) zdQ_27_102 zm_27 rfl rfl ?_
    exact zr_cg2 (zr_inc p hp) (ih _ _ _)
theorem zr_coA_0 {d : Nat} {w1 w : zW} {za ta ni jn : Nat} {f : Nat → Int32} {a1 a2 a3 : Value} {g : List Value} {g1 : List Value} (z1 : w1.1 za = some (.inr (0, .ref 2 :: g1))) (ht : zmet d 47 [.ref za] w1 none w) (z : w.1 za = some (.inr (0, .ref 2 :: a1 :: a2 :: a3 :: .ref ta :: g))) (A : w.1 ta = some (.inl (0, 169, .inl f))) (hf : ∀ n, n < 168 → f (n + 1) = 0) (hi : ni < 13) (hj : jn < 13) (hn : 0 < ni ∨ 0 < jn) : zmet (d + 1) 27 [.ref za, .int (Int32.ofNat ni), .int (Int32.ofNat jn)] w1 (some (.int 0)) w := by
  refine ⟨_, rfl, Nat.le_of_ble_eq_true rfl, ?_⟩
  show zev (d + 1) 27 0 [some (.ref za), some (.int (Int32.ofNat ni)), some (.int (Int32.ofNat jn)), none, none, none, none, none] [] w1 _ _
  refine zt (pc' := 1) zdQ_27_0 zm_27 rfl rfl ?_
  refine zt_V (pc' := 4) zdQ_27_1 zm_27 rfl zq_2_99 rfl (Nat.le_of_ble_eq_true rfl) z1 zqv_2_99_0 (by decide) rfl (ht) ?_
  refine zt (pc' := 5) zdQ_27_4 zm_27 rfl rfl ?_
  refine zt (pc' := 6) zdQ_27_5 zm_27 rfl rfl ?_
  show zev _ _ _ [_, _, _, _, _, _, _, _] _ _ _ _
  refine zt (pc' := 7) zdQ_27_6 zm_27 rfl rfl ?_
  refine zt (pc' := 9) zdQ_27_7 zm_27 rfl rfl ?_
  show zev _ _ _ [_, _, _, _, _, _, _, _] _ _ _ _
  exact zr_out_0 z A hf hj (13 - ni) ni (by omega) hn _ _ _
set_option maxHeartbeats 8000000 in
theorem zr_in_2 {d : Nat} {w w' : zW} {r : Option Value} {za ta p : Nat} {i j sm : Int32} {f : Nat → Int32} {a1 a2 a3 : Value} {g : List Value} (z : w.1 za = some (.inr (2, .ref 2 :: a1 :: a2 :: a3 :: .ref ta :: g))) (A : w.1 ta = some (.inl (0, 169, .inl f))) (hf : ∀ n, n < 168 → f (n + 1) = 0) (hp : p < 13) (kk : ∀ x5 x6 x7 : Option Value, zev d 27 99 [some (.ref za), some (.int i), some (.int j), some (.int sm), some (.int (Int32.ofNat p)), x5, x6, x7] [] w r w') : ∀ (m q : Nat), q + m = 13 → (0 < p ∨ 0 < q) → ∀ x6 x7 : Option Value, zev d 27 19 [some (.ref za), some (.int i), some (.int j), some (.int sm), some (.int (Int32.ofNat p)), some (.int (Int32.ofNat q)), x6, x7] [] w r w'
  | 0, q, hqm, hpq, x6, x7 => by
    have e : q = 13 := by omega
    subst e
    refine zt (pc' := 21) zdQ_27_19 zm_27 rfl rfl ?_
    refine zt (pc' := 23) zdQ_27_21 zm_27 rfl rfl ?_
    refine zt_icT (tgt := 99) (pc' := 26) zdQ_27_23 zm_27 rfl rfl (zgt (by decide)) ?_
    exact kk _ _ _
  | m + 1, q, hqm, hpq, x6, x7 => by
    have hq : q < 13 := by omega
    have hv : f (Int32.ofNat p * 13 + Int32.ofNat q).toNatClampNeg = 0 := by
      rw [(zr_ix p hp q hq).2]
      have e : p * 13 + q = (p * 13 + q - 1) + 1 := by omega
      rw [e]
      exact hf _ (by omega)
    have ih := zr_in_2 z A hf hp kk m (q + 1) (by omega) (Or.inr (by omega))
    refine zt (pc' := 21) zdQ_27_19 zm_27 rfl rfl ?_
    refine zt (pc' := 23) zdQ_27_21 zm_27 rfl rfl ?_
    refine zt_icF (tgt := 99) (pc' := 26) zdQ_27_23 zm_27 rfl rfl (zngt (zr_g0 q hq)) ?_
    refine zt (pc' := 27) zdQ_27_26 zm_27 rfl rfl ?_
    refine zt_get (pc' := 30) zdQ_27_27 zm_27 rfl rfl z (by decide) rfl ?_
    refine zt (pc' := 32) zdQ_27_30 zm_27 rfl rfl ?_
    refine zt (pc' := 34) zdQ_27_32 zm_27 rfl rfl ?_
    refine zt (pc' := 35) zdQ_27_34 zm_27 rfl rfl ?_
    refine zt (pc' := 37) zdQ_27_35 zm_27 rfl rfl ?_
    refine zt (pc' := 38) zdQ_27_37 zm_27 rfl rfl ?_
    refine zt_ial (pc' := 39) zdQ_27_38 zm_27 rfl A (zr_ix p hp q hq).1 ?_
    refine zt (pc' := 41) zdQ_27_39 zm_27 rfl rfl ?_
    show zev _ _ _ [_, _, _, _, _, _, _, _] _ _ _ _
    refine zt (pc' := 43) zdQ_27_41 zm_27 rfl rfl ?_
    refine zt_ifF (tgt := 50) (pc' := 46) zdQ_27_43 zm_27 rfl rfl (znne hv) ?_
    refine zt (pc' := 47) zdQ_27_46 zm_27 rfl rfl ?_
    refine zt (pc' := 66) zdQ_27_47 zm_27 rfl rfl ?_
    refine zt (pc' := 68) zdQ_27_66 zm_27 rfl rfl ?_
    show zev _ _ _ [_, _, _, _, _, _, _, _] _ _ _ _
    refine zt (pc' := 69) zdQ_27_68 zm_27 rfl rfl ?_
    refine zt (pc' := 71) zdQ_27_69 zm_27 rfl rfl ?_
    refine zt (pc' := 72) zdQ_27_71 zm_27 rfl rfl ?_
    refine zt (pc' := 73) zdQ_27_72 zm_27 rfl rfl ?_
    refine zt (pc' := 75) zdQ_27_73 zm_27 rfl rfl ?_
    refine zt (pc' := 76) zdQ_27_75 zm_27 rfl rfl ?_
    refine zt (pc' := 77) zdQ_27_76 zm_27 rfl rfl ?_
    refine zt (pc' := 78) zdQ_27_77 zm_27 rfl rfl ?_
    refine zt (pc' := 79) zdQ_27_78 zm_27 rfl rfl ?_
    refine zt (pc' := 80) zdQ_27_79 zm_27 rfl rfl ?_
    refine zt_ifB (tgt := 88) (pc' := 83) zdQ_27_80 zm_27 rfl rfl ?_ ?_
    · refine zt (pc' := 90) zdQ_27_88 zm_27 rfl rfl ?_
      refine zt (pc' := 91) zdQ_27_90 zm_27 rfl rfl ?_
      refine zt (pc' := 92) zdQ_27_91 zm_27 rfl rfl ?_
      refine zt (pc' := 93) zdQ_27_92 zm_27 rfl rfl ?_
      show zev _ _ _ [_, _, _, _, _, _, _, _] _ _ _ _
      refine zt (pc' := 96) zdQ_27_93 zm_27 rfl rfl ?_
      show zev _ _ _ [_, _, _, _, _, _, _, _] _ _ _ _
      refine zt (pc' := 19) zdQ_27_96 zm_27 rfl rfl ?_
      exact zr_cg (zr_n0 sm) (zr_inc q hq) (ih _ _)
    · refine zt (pc' := 85) zdQ_27_83 zm_27 rfl rfl ?_
      refine zt (pc' := 91) zdQ_27_85 zm_27 rfl rfl ?_
      refine zt (pc' := 92) zdQ_27_91 zm_27 rfl rfl ?_
      refine zt (pc' := 93) zdQ_27_92 zm_27 rfl rfl ?_
      show zev _ _ _ [_, _, _, _, _, _, _, _] _ _ _ _
      refine zt (pc' := 96) zdQ_27_93 zm_27 rfl rfl ?_
      show zev _ _ _ [_, _, _, _, _, _, _, _] _ _ _ _
      refine zt (pc' := 19) zdQ_27_96 zm_27 rfl rfl ?_
      exact zr_cg (Int32.add_zero sm) (zr_inc q hq) (ih _ _)
theorem zr_out_2 {d : Nat} {w : zW} {za ta jn : Nat} {i sm : Int32} {f : Nat → Int32} {a1 a2 a3 : Value} {g : List Value} (z : w.1 za = some (.inr (2, .ref 2 :: a1 :: a2 :: a3 :: .ref ta :: g))) (A : w.1 ta = some (.inl (0, 169, .inl f))) (hf : ∀ n, n < 168 → f (n + 1) = 0) (hj : jn < 13) : ∀ (m p : Nat), p + m = 13 → (0 < p ∨ 0 < jn) → ∀ x5 x6 x7 : Option Value, zev d 27 9 [some (.ref za), some (.int i), some (.int (Int32.ofNat jn)), some (.int sm), some (.int (Int32.ofNat p)), x5, x6, x7] [] w (some (.int sm)) w
  | 0, p, hpm, hpj, x5, x6, x7 => by
    have e : p = 13 := by omega
    subst e
    refine zt (pc' := 11) zdQ_27_9 zm_27 rfl rfl ?_
    refine zt (pc' := 13) zdQ_27_11 zm_27 rfl rfl ?_
    refine zt_icT (tgt := 105) (pc' := 16) zdQ_27_13 zm_27 rfl rfl (zgt (by decide)) ?_
    refine zt (pc' := 106) zdQ_27_105 zm_27 rfl rfl ?_
    exact zte zdQ_27_106 zm_27 rfl
  | m + 1, p, hpm, hpj, x5, x6, x7 => by
    have hp : p < 13 := by omega
    have ih := zr_out_2 (d := d) (i := i) (sm := sm) z A hf hj m (p + 1) (by omega) (Or.inl (by omega))
    refine zt (pc' := 11) zdQ_27_9 zm_27 rfl rfl ?_
    refine zt (pc' := 13) zdQ_27_11 zm_27 rfl rfl ?_
    refine zt_icF (tgt := 105) (pc' := 16) zdQ_27_13 zm_27 rfl rfl (zngt (zr_g0 p hp)) ?_
    refine zt (pc' := 17) zdQ_27_16 zm_27 rfl rfl ?_
    refine zt (pc' := 19) zdQ_27_17 zm_27 rfl rfl ?_
    show zev _ _ _ [_, _, _, _, _, _, _, _] _ _ _ _
    refine zr_in_2 z A hf hp (fun x5 x6 x7 => ?_) (13 - jn) jn (by omega) hpj _ _
    refine zt (pc' := 102) zdQ_27_99 zm_27 rfl rfl ?_
    show zev _ _ _ [_, _, _, _, _, _, _, _] _ _ _ _
    refine zt (pc' := 9) zdQ_27_102 zm_27 rfl rfl ?_
    exact zr_cg2 (zr_inc p hp) (ih _ _ _)
theorem zr_coA_2 {d : Nat} {w1 w : zW} {za ta ni jn : Nat} {f : Nat → Int32} {a1 a2 a3 : Value} {g : List Value} {g1 : List Value} (z1 : w1.1 za = some (.inr (2, .ref 2 :: g1))) (ht : zmet d 47 [.ref za] w1 none w) (z : w.1 za = some (.inr (2, .ref 2 :: a1 :: a2 :: a3 :: .ref ta :: g))) (A : w.1 ta = some (.inl (0, 169, .inl f))) (hf : ∀ n, n < 168 → f (n + 1) = 0) (hi : ni < 13) (hj : jn < 13) (hn : 0 < ni ∨ 0 < jn) : zmet (d + 1) 27 [.ref za, .int (Int32.ofNat ni), .int (Int32.ofNat jn)] w1 (some (.int 0)) w := by
  refine ⟨_, rfl, Nat.le_of_ble_eq_true rfl, ?_⟩
  show zev (d + 1) 27 0 [some (.ref za), some (.int (Int32.ofNat ni)), some (.int (Int32.ofNat jn)), none, none, none, none, none] [] w1 _ _
  refine zt (pc' := 1) zdQ_27_0 zm_27 rfl rfl ?_
  refine zt_V (pc' := 4) zdQ_27_1 zm_27 rfl zq_2_99 rfl (Nat.le_of_ble_eq_true rfl) z1 zqv_2_99_2 (by decide) rfl (ht) ?_
  refine zt (pc' := 5) zdQ_27_4 zm_27 rfl rfl ?_
  refine zt (pc' := 6) zdQ_27_5 zm_27 rfl rfl ?_
  show zev _ _ _ [_, _, _, _, _, _, _, _] _ _ _ _
  refine zt (pc' := 7) zdQ_27_6 zm_27 rfl rfl ?_
  refine zt (pc' := 9) zdQ_27_7 zm_27 rfl rfl ?_
  show zev _ _ _ [_, _, _, _, _, _, _, _] _ _ _ _
  exact zr_out_2 z A hf hj (13 - ni) ni (by omega) hn _ _ _
theorem zr_ch {d : Nat} {w : zW} : zmet (d) 109 [.int 0, .int 0] w (some (.int 1)) w := by
  refine ⟨_, rfl, Nat.le_of_ble_eq_true rfl, ?_⟩
  show zev (d) 109 0 [some (.int 0), some (.int 0), none, none] [] w _ _
  refine zt (pc' := 1) zdQ_109_0 zm_109 rfl rfl ?_
  refine zt (pc' := 2) zdQ_109_1 zm_109 rfl rfl ?_
  show zev _ _ _ [_, _, _, _] _ _ _ _
  refine zt (pc' := 3) zdQ_109_2 zm_109 rfl rfl ?_
  refine zt (pc' := 4) zdQ_109_3 zm_109 rfl rfl ?_
  show zev _ _ _ [_, _, _, _] _ _ _ _
  refine zt (pc' := 5) zdQ_109_4 zm_109 rfl rfl ?_
  refine zt (pc' := 6) zdQ_109_5 zm_109 rfl rfl ?_
  refine zt_icT (tgt := 25) (pc' := 9) zdQ_109_6 zm_109 rfl rfl (zge (by decide)) ?_
  refine zt (pc' := 26) zdQ_109_25 zm_109 rfl rfl ?_
  exact zte zdQ_109_26 zm_109 rfl
theorem zr_tm0 {d : Nat} {w : zW} {i : Int32} (h : ¬ i ≤ 0) : zmet (d) 164 [.int 0, .int i] w (some (.int 0)) w := by
  refine ⟨_, rfl, Nat.le_of_ble_eq_true rfl, ?_⟩
  show zev (d) 164 0 [some (.int 0), some (.int i)] [] w _ _
  refine zt (pc' := 1) zdQ_164_0 zm_164 rfl rfl ?_
  refine zt (pc' := 2) zdQ_164_1 zm_164 rfl rfl ?_
  refine zt_icF (tgt := 9) (pc' := 5) zdQ_164_2 zm_164 rfl rfl (znle h) ?_
  refine zt (pc' := 6) zdQ_164_5 zm_164 rfl rfl ?_
  refine zt (pc' := 31) zdQ_164_6 zm_164 rfl rfl ?_
  exact zte zdQ_164_31 zm_164 rfl
theorem zr_tm1 {d : Nat} {w : zW} : zmet (d + 1) 164 [.int 0, .int 0] w (some (.int 1)) w := by
  refine ⟨_, rfl, Nat.le_of_ble_eq_true rfl, ?_⟩
  show zev (d + 1) 164 0 [some (.int 0), some (.int 0)] [] w _ _
  refine zt (pc' := 1) zdQ_164_0 zm_164 rfl rfl ?_
  refine zt (pc' := 2) zdQ_164_1 zm_164 rfl rfl ?_
  refine zt_icT (tgt := 9) (pc' := 5) zdQ_164_2 zm_164 rfl rfl (zle' (by decide)) ?_
  refine zt (pc' := 10) zdQ_164_9 zm_164 rfl rfl ?_
  refine zt (pc' := 11) zdQ_164_10 zm_164 rfl rfl ?_
  refine zt (pc' := 12) zdQ_164_11 zm_164 rfl rfl ?_
  refine zt (pc' := 13) zdQ_164_12 zm_164 rfl rfl ?_
  refine zt (pc' := 14) zdQ_164_13 zm_164 rfl rfl ?_
  refine zt_ifF (tgt := 25) (pc' := 17) zdQ_164_14 zm_164 rfl rfl (znne (by decide)) ?_
  refine zt (pc' := 18) zdQ_164_17 zm_164 rfl rfl ?_
  refine zt (pc' := 19) zdQ_164_18 zm_164 rfl rfl ?_
  refine zt_S (pc' := 22) zdQ_164_19 zm_164 rfl zq_7_209 (Nat.le_of_ble_eq_true rfl) (Nat.le_of_ble_eq_true rfl) rfl (zr_ch) ?_
  refine zt (pc' := 31) zdQ_164_22 zm_164 rfl rfl ?_
  exact zte zdQ_164_31 zm_164 rfl
theorem zr_rco0 {w1 : zW} {s i j : Int32} {l1 : Value} {m1 : List Value} (M1 : w1.1 9 = some (.inr (5, .int 1 :: l1 :: .int 0 :: m1))) (hS : zmet 39 138 [.ref 9, .int s] w1 (some (.int 1)) w1) (h : i < 0 ∨ j < 0) : zmet (40) 114 [.ref 9, .int s, .int i, .int j] w1 (some (.int 0)) w1 := by
  refine ⟨_, rfl, Nat.le_of_ble_eq_true rfl, ?_⟩
  show zev (40) 114 0 [some (.ref 9), some (.int s), some (.int i), some (.int j), none, none] [] w1 _ _
  by_cases h1 : i < 0
  · refine zt (pc' := 1) zdQ_114_0 zm_114 rfl rfl ?_
    refine zt (pc' := 2) zdQ_114_1 zm_114 rfl rfl ?_
    refine zt_V (pc' := 5) zdQ_114_2 zm_114 rfl zq_7_158 rfl (Nat.le_of_ble_eq_true rfl) M1 zqv_7_158_5 (by decide) rfl (hS) ?_
    refine zt_ifT (tgt := 11) (pc' := 8) zdQ_114_5 zm_114 rfl rfl (zne (by decide)) ?_
    refine zt (pc' := 12) zdQ_114_11 zm_114 rfl rfl ?_
    refine zt_ifT (tgt := 19) (pc' := 15) zdQ_114_12 zm_114 rfl rfl (zlt h1) ?_
    refine zt (pc' := 20) zdQ_114_19 zm_114 rfl rfl ?_
    exact zte zdQ_114_20 zm_114 rfl
  · have h2 : ¬ (0 : Int32) ≤ j := Int32.not_le.mpr (h.resolve_left h1)
    refine zt (pc' := 1) zdQ_114_0 zm_114 rfl rfl ?_
    refine zt (pc' := 2) zdQ_114_1 zm_114 rfl rfl ?_
    refine zt_V (pc' := 5) zdQ_114_2 zm_114 rfl zq_7_158 rfl (Nat.le_of_ble_eq_true rfl) M1 zqv_7_158_5 (by decide) rfl (hS) ?_
    refine zt_ifT (tgt := 11) (pc' := 8) zdQ_114_5 zm_114 rfl rfl (zne (by decide)) ?_
    refine zt (pc' := 12) zdQ_114_11 zm_114 rfl rfl ?_
    refine zt_ifF (tgt := 19) (pc' := 15) zdQ_114_12 zm_114 rfl rfl (znlt h1) ?_
    refine zt (pc' := 16) zdQ_114_15 zm_114 rfl rfl ?_
    refine zt_ifF (tgt := 21) (pc' := 19) zdQ_114_16 zm_114 rfl rfl (znge h2) ?_
    refine zt (pc' := 20) zdQ_114_19 zm_114 rfl rfl ?_
    exact zte zdQ_114_20 zm_114 rfl
set_option maxHeartbeats 8000000 in
theorem zr_rco {w1 w2 w3 w4 w5 : zW} {s i j a b : Int32} {l1 : Value} {m1 : List Value} (M1 : w1.1 9 = some (.inr (5, .int 1 :: l1 :: .int 0 :: m1))) (hS : zmet 39 138 [.ref 9, .int s] w1 (some (.int 1)) w1) (h1 : ¬ i < 0) (h2 : (0 : Int32) ≤ j) (r1 : zmet 39 156 [.ref 9, .int s, .int 0] w1 (some (.int 0)) w2) {l2 : Value} {m2 : List Value} (M2 : w2.1 9 = some (.inr (5, .int 1 :: l2 :: .int 0 :: m2))) (r2 : zmet 39 156 [.ref 9, .int s, .int 0] w2 (some (.int 0)) w3) (o0 : zmet 39 148 [.int 0] w3 (some (.int 0)) w4) {l4 : Value} {m4 : List Value} (M4 : w4.1 9 = some (.inr (5, .int 1 :: l4 :: .int 0 :: m4))) (r3 : zmet 39 156 [.ref 9, .int s, .int 0] w4 (some (.int 0)) w5) {l5 : Value} {m5 : List Value} (M5 : w5.1 9 = some (.inr (5, .int 1 :: l5 :: .int 0 :: m5))) (ti : ∀ {w : zW}, zmet 39 164 [.int 0, .int i] w (some (.int a)) w) (tj : ∀ {w : zW}, zmet 39 164 [.int 0, .int j] w (some (.int b)) w) : zmet (40) 114 [.ref 9, .int s, .int i, .int j] w1 (some (.int (0 + a * b))) w5 := by
  refine ⟨_, rfl, Nat.le_of_ble_eq_true rfl, ?_⟩
  show zev (40) 114 0 [some (.ref 9), some (.int s), some (.int i), some (.int j), none, none] [] w1 _ _
  refine zt (pc' := 1) zdQ_114_0 zm_114 rfl rfl ?_
  refine zt (pc' := 2) zdQ_114_1 zm_114 rfl rfl ?_
  refine zt_V (pc' := 5) zdQ_114_2 zm_114 rfl zq_7_158 rfl (Nat.le_of_ble_eq_true rfl) M1 zqv_7_158_5 (by decide) rfl (hS) ?_
  refine zt_ifT (tgt := 11) (pc' := 8) zdQ_114_5 zm_114 rfl rfl (zne (by decide)) ?_
  refine zt (pc' := 12) zdQ_114_11 zm_114 rfl rfl ?_
  refine zt_ifF (tgt := 19) (pc' := 15) zdQ_114_12 zm_114 rfl rfl (znlt h1) ?_
  refine zt (pc' := 16) zdQ_114_15 zm_114 rfl rfl ?_
  refine zt_ifT (tgt := 21) (pc' := 19) zdQ_114_16 zm_114 rfl rfl (zge h2) ?_
  refine zt (pc' := 22) zdQ_114_21 zm_114 rfl rfl ?_
  refine zt (pc' := 24) zdQ_114_22 zm_114 rfl rfl ?_
  show zev _ _ _ [_, _, _, _, _, _] _ _ _ _
  refine zt (pc' := 25) zdQ_114_24 zm_114 rfl rfl ?_
  refine zt (pc' := 27) zdQ_114_25 zm_114 rfl rfl ?_
  show zev _ _ _ [_, _, _, _, _, _] _ _ _ _
  refine zt (pc' := 29) zdQ_114_27 zm_114 rfl rfl ?_
  refine zt (pc' := 30) zdQ_114_29 zm_114 rfl rfl ?_
  refine zt_V (pc' := 33) zdQ_114_30 zm_114 rfl zq_7_151 rfl (Nat.le_of_ble_eq_true rfl) M1 zqv_7_151_5 (by decide) rfl (zr_all M1) ?_
  refine zt_icF (tgt := 86) (pc' := 36) zdQ_114_33 zm_114 rfl rfl (zngt (by decide)) ?_
  refine zt (pc' := 38) zdQ_114_36 zm_114 rfl rfl ?_
  refine zt (pc' := 39) zdQ_114_38 zm_114 rfl rfl ?_
  refine zt (pc' := 40) zdQ_114_39 zm_114 rfl rfl ?_
  refine zt (pc' := 41) zdQ_114_40 zm_114 rfl rfl ?_
  refine zt_V (pc' := 44) zdQ_114_41 zm_114 rfl zq_7_151 rfl (Nat.le_of_ble_eq_true rfl) M1 zqv_7_151_5 (by decide) rfl (zr_all M1) ?_
  refine zt_V (pc' := 47) zdQ_114_44 zm_114 rfl zq_7_164 rfl (Nat.le_of_ble_eq_true rfl) M1 zqv_7_164_5 (by decide) rfl (r1) ?_
  refine zt (pc' := 48) zdQ_114_47 zm_114 rfl rfl ?_
  refine zt (pc' := 49) zdQ_114_48 zm_114 rfl rfl ?_
  refine zt (pc' := 51) zdQ_114_49 zm_114 rfl rfl ?_
  refine zt_V (pc' := 54) zdQ_114_51 zm_114 rfl zq_7_164 rfl (Nat.le_of_ble_eq_true rfl) M2 zqv_7_164_5 (by decide) rfl (r2) ?_
  refine zt (pc' := 55) zdQ_114_54 zm_114 rfl rfl ?_
  refine zt (pc' := 56) zdQ_114_55 zm_114 rfl rfl ?_
  refine zt_S (pc' := 59) zdQ_114_56 zm_114 rfl zq_7_212 (Nat.le_of_ble_eq_true rfl) (Nat.le_of_ble_eq_true rfl) rfl (ti) ?_
  refine zt (pc' := 61) zdQ_114_59 zm_114 rfl rfl ?_
  refine zt_S (pc' := 64) zdQ_114_61 zm_114 rfl zq_7_126 (Nat.le_of_ble_eq_true rfl) (Nat.le_of_ble_eq_true rfl) rfl (o0) ?_
  refine zt (pc' := 65) zdQ_114_64 zm_114 rfl rfl ?_
  refine zt (pc' := 66) zdQ_114_65 zm_114 rfl rfl ?_
  refine zt (pc' := 68) zdQ_114_66 zm_114 rfl rfl ?_
  refine zt_V (pc' := 71) zdQ_114_68 zm_114 rfl zq_7_164 rfl (Nat.le_of_ble_eq_true rfl) M4 zqv_7_164_5 (by decide) rfl (r3) ?_
  refine zt (pc' := 72) zdQ_114_71 zm_114 rfl rfl ?_
  refine zt (pc' := 73) zdQ_114_72 zm_114 rfl rfl ?_
  refine zt_S (pc' := 76) zdQ_114_73 zm_114 rfl zq_7_212 (Nat.le_of_ble_eq_true rfl) (Nat.le_of_ble_eq_true rfl) rfl (tj) ?_
  refine zt (pc' := 77) zdQ_114_76 zm_114 rfl rfl ?_
  refine zt (pc' := 78) zdQ_114_77 zm_114 rfl rfl ?_
  refine zt (pc' := 80) zdQ_114_78 zm_114 rfl rfl ?_
  show zev _ _ _ [_, _, _, _, _, _] _ _ _ _
  refine zt (pc' := 83) zdQ_114_80 zm_114 rfl rfl ?_
  show zev _ _ _ [_, _, _, _, _, _] _ _ _ _
  refine zt (pc' := 27) zdQ_114_83 zm_114 rfl rfl ?_
  refine zt (pc' := 29) zdQ_114_27 zm_114 rfl rfl ?_
  refine zt (pc' := 30) zdQ_114_29 zm_114 rfl rfl ?_
  refine zt_V (pc' := 33) zdQ_114_30 zm_114 rfl zq_7_151 rfl (Nat.le_of_ble_eq_true rfl) M5 zqv_7_151_5 (by decide) rfl (zr_all M5) ?_
  refine zt_icT (tgt := 86) (pc' := 36) zdQ_114_33 zm_114 rfl rfl (zgt (by decide)) ?_
  refine zt (pc' := 88) zdQ_114_86 zm_114 rfl rfl ?_
  exact zte zdQ_114_88 zm_114 rfl
theorem zr_tt {i j : Int32} (h1 : ¬ i < 0) (h2 : ¬ j < 0) (h : ¬ (i = 0 ∧ j = 0)) : ∃ a b : Int32, (∀ {w : zW}, zmet 39 164 [.int 0, .int i] w (some (.int a)) w) ∧ (∀ {w : zW}, zmet 39 164 [.int 0, .int j] w (some (.int b)) w) ∧ 0 + a * b = 0 := by
  have pos : ∀ {v : Int32}, ¬ v < 0 → ¬ v = 0 → ¬ v ≤ 0 := by
    intro v a b c
    rw [Int32.lt_iff_toInt_lt] at a
    rw [Int32.le_iff_toInt_le] at c
    have e0 : (0 : Int32).toInt = 0 := rfl
    exact b (Int32.toInt_inj.mp (by omega))
  by_cases hi : i = 0
  · subst hi
    have hj : ¬ j = 0 := fun e => h ⟨rfl, e⟩
    exact ⟨1, 0, zr_tm1, zr_tm0 (pos h2 hj), by decide⟩
  · by_cases hj : j = 0
    · subst hj
      exact ⟨0, 1, zr_tm0 (pos h1 hi), zr_tm1, by decide⟩
    · exact ⟨0, 0, zr_tm0 (pos h1 hi), zr_tm0 (pos h2 hj), by decide⟩
def zkr4 (s : Int32) (w4 : zW) : Bool := match zrunT 1000000 39 156 0 (zin 3 [.ref 9, .int s, .int 0]) [] w4 with
  | some (some (.int 0), w5) => zkM w5 && zRmb w5
  | _ => false
def zkr3 (s : Int32) (w3 : zW) : Bool := match zrunT 1000000 39 148 0 (zin 3 [.int 0]) [] w3 with
  | some (some (.int 0), w4) => zkM w4 && zkr4 s w4
  | _ => false
def zkr2 (s : Int32) (w2 : zW) : Bool := match zrunT 1000000 39 156 0 (zin 3 [.ref 9, .int s, .int 0]) [] w2 with
  | some (some (.int 0), w3) => zkr3 s w3
  | _ => false
def zkr (s : Int32) (w1 : zW) : Bool := match zrunT 1000000 39 156 0 (zin 3 [.ref 9, .int s, .int 0]) [] w1 with
  | some (some (.int 0), w2) => zkM w2 && zkr2 s w2
  | _ => false
theorem zr_R {s i j : Int32} {w1 : zW} {l1 : Value} {m1 : List Value} (M1 : w1.1 9 = some (.inr (5, .int 1 :: l1 :: .int 0 :: m1))) (hS : zmet 39 138 [.ref 9, .int s] w1 (some (.int 1)) w1) (h1 : ¬ i < 0) (h2 : ¬ j < 0) (hn : ¬ (i = 0 ∧ j = 0)) (h : zkr s w1 = true) : ∃ w5 : zW, zmet 40 114 [.ref 9, .int s, .int i, .int j] w1 (some (.int 0)) w5 ∧ zRm w5 := by
  obtain ⟨a, b, ti, tj, e⟩ := zr_tt h1 h2 hn
  unfold zkr at h
  split at h
  · rename_i w2 y1
    simp only [Bool.and_eq_true] at h
    obtain ⟨q1, q2⟩ := h
    unfold zkr2 at q2
    split at q2
    · rename_i w3 y2
      unfold zkr3 at q2
      split at q2
      · rename_i w4 y3
        simp only [Bool.and_eq_true] at q2
        obtain ⟨q3, q4⟩ := q2
        unfold zkr4 at q4
        split at q4
        · rename_i w5 y4
          simp only [Bool.and_eq_true] at q4
          obtain ⟨q5, q6⟩ := q4
          obtain ⟨l2, m2, M2, -⟩ := zkM_ok q1
          obtain ⟨l4, m4, M4, -⟩ := zkM_ok q3
          obtain ⟨l5, m5, M5, -⟩ := zkM_ok q5
          have t := zr_rco (i := i) (j := j) M1 hS h1 (Int32.not_lt.mp h2) ⟨_, zm_156, Nat.le_of_ble_eq_true rfl, _, zrunT_ok _ _ _ _ _ _ _ _ y1⟩ M2 ⟨_, zm_156, Nat.le_of_ble_eq_true rfl, _, zrunT_ok _ _ _ _ _ _ _ _ y2⟩ ⟨_, zm_148, Nat.le_of_ble_eq_true rfl, _, zrunT_ok _ _ _ _ _ _ _ _ y3⟩ M4 ⟨_, zm_156, Nat.le_of_ble_eq_true rfl, _, zrunT_ok _ _ _ _ _ _ _ _ y4⟩ M5 ti tj
          rw [e] at t
          exact ⟨w5, t, zRm_ok q6⟩
        · cases q4
      · cases q2
    · cases q2
  · cases h
def zkT (w : zW) (za ci : Nat) : Bool := match w.1 za with
  | some (.inr (c, .ref 2 :: _ :: _ :: _ :: .ref ta :: _)) => decide (c = ci) && (match w.1 ta with
    | some (.inl (0, 169, .inl f)) => (List.range 168).all (fun n => decide (f (n + 1) = 0))
    | _ => false)
  | _ => false
theorem zkT_ok {w : zW} {za ci : Nat} (h : zkT w za ci = true) : ∃ (ta : Nat) (f : Nat → Int32) (a1 a2 a3 : Value) (g : List Value), w.1 za = some (.inr (ci, .ref 2 :: a1 :: a2 :: a3 :: .ref ta :: g)) ∧ w.1 ta = some (.inl (0, 169, .inl f)) ∧ ∀ n, n < 168 → f (n + 1) = 0 := by
  unfold zkT at h
  split at h
  · rename_i c a1 a2 a3 ta g hw
    simp only [Bool.and_eq_true, decide_eq_true_eq] at h
    obtain ⟨e, h⟩ := h
    subst e
    split at h
    · rename_i f hf
      refine ⟨ta, f, a1, a2, a3, g, hw, hf, fun n hn => ?_⟩
      exact of_decide_eq_true (List.all_eq_true.mp h n (List.mem_range.mpr hn))
    · cases h
  · cases h
theorem z0c {v : Int32} (h1 : ¬ v < 0) (h2 : ¬ 12 < v) : ∃ n : Nat, n < 13 ∧ v = Int32.ofNat n := by
  rw [Int32.lt_iff_toInt_lt] at h1 h2
  have e0 : (0 : Int32).toInt = 0 := rfl
  have e2 : (12 : Int32).toInt = 12 := rfl
  refine ⟨v.toInt.toNat, by omega, Int32.toInt_inj.mp ?_⟩
  rw [Int32.toInt_ofNat_of_lt (by omega)]
  omega
def zyt0 : zW := zKw (zrunT 1000000 38 47 0 (zin 4 [.ref za0]) [] zy0)
theorem zyt0_m : zmet 38 47 [.ref za0] zy0 none zyt0 := zmetK zm_47 (Nat.le_of_ble_eq_true rfl) (by decide +kernel)
theorem zyt0_T : zkT zyt0 za0 2 = true := by decide +kernel
theorem zyt0_M : zkM zyt0 = true := by decide +kernel
theorem zyt0_r : zRmb zyt0 = true := by decide +kernel
theorem zyt0_k : zkr 0 zyt0 = true := by decide +kernel
theorem zy0_k : zkr 0 zy0 = true := by decide +kernel
theorem zy0_M : zkM zy0 = true := by decide +kernel
theorem zc_coefficient_0_0_0 : zP 78 114 [.int 0, .int 0, .int 0] := zpk_coefficient (by decide) (by decide) (by decide +kernel)
def zyt1 : zW := zKw (zrunT 1000000 38 47 0 (zin 4 [.ref za1]) [] zy1)
theorem zyt1_m : zmet 38 47 [.ref za1] zy1 none zyt1 := zmetK zm_47 (Nat.le_of_ble_eq_true rfl) (by decide +kernel)
theorem zyt1_T : zkT zyt1 za1 2 = true := by decide +kernel
theorem zyt1_M : zkM zyt1 = true := by decide +kernel
theorem zyt1_r : zRmb zyt1 = true := by decide +kernel
theorem zyt1_k : zkr 1 zyt1 = true := by decide +kernel
theorem zy1_k : zkr 1 zy1 = true := by decide +kernel
theorem zy1_M : zkM zy1 = true := by decide +kernel
theorem zc_coefficient_1_0_0 : zP 78 114 [.int 1, .int 0, .int 0] := zpk_coefficient (by decide) (by decide) (by decide +kernel)
def zyt2 : zW := zKw (zrunT 1000000 38 47 0 (zin 4 [.ref za2]) [] zy2)
theorem zyt2_m : zmet 38 47 [.ref za2] zy2 none zyt2 := zmetK zm_47 (Nat.le_of_ble_eq_true rfl) (by decide +kernel)
theorem zyt2_T : zkT zyt2 za2 0 = true := by decide +kernel
theorem zyt2_M : zkM zyt2 = true := by decide +kernel
theorem zyt2_r : zRmb zyt2 = true := by decide +kernel
theorem zyt2_k : zkr 2 zyt2 = true := by decide +kernel
theorem zy2_k : zkr 2 zy2 = true := by decide +kernel
theorem zy2_M : zkM zy2 = true := by decide +kernel
theorem zc_coefficient_2_0_0 : zP 78 114 [.int 2, .int 0, .int 0] := zpk_coefficient (by decide) (by decide) (by decide +kernel)
theorem p_coefficient (v i j : Int32) : zP 78 114 [.int v, .int i, .int j] := by
  obtain ⟨p, ms, hM⟩ := zx4_9
  by_cases h : v < 0 ∨ 2 < v
  · exact zP_same (s_coefficient zx4_1 h) (t_coefficient hM h)
  · rcases z012 h with e | e | e <;> subst e
    · obtain ⟨l, m, M1, -⟩ := zkM_ok zy0_M
      by_cases hr : i < 0 ∨ 12 < i ∨ j < 0 ∨ 12 < j
      · by_cases hn : i < 0 ∨ j < 0
        · exact zP_to (zr_co0 zy0_m hr) (zr_rco0 M1 (c_isSort1_0 M1) hn) zy0_r
        · have h1 : ¬ i < 0 := fun k => hn (Or.inl k)
          have h2 : ¬ j < 0 := fun k => hn (Or.inr k)
          obtain ⟨w5, t, r⟩ := zr_R (i := i) (j := j) M1 (c_isSort1_0 M1) h1 h2 (by
            rintro ⟨e1, e2⟩
            subst e1
            subst e2
            revert hr
            decide) zy0_k
          exact ⟨0, zy0, w5, zr_co0 zy0_m hr, t, zy0_r, r⟩
      · have h1 : ¬ i < 0 := fun k => hr (Or.inl k)
        have h2 : ¬ 12 < i := fun k => hr (Or.inr (Or.inl k))
        have h3 : ¬ j < 0 := fun k => hr (Or.inr (Or.inr (Or.inl k)))
        have h4 : ¬ 12 < j := fun k => hr (Or.inr (Or.inr (Or.inr k)))
        by_cases hz : i = 0 ∧ j = 0
        · obtain ⟨e1, e2⟩ := hz
          subst e1
          subst e2
          exact zc_coefficient_0_0_0
        · obtain ⟨g, z1⟩ := zkZ_ok zr_z0
          obtain ⟨ta, f, a1, a2, a3, g', zt1, A, hf⟩ := zkT_ok zyt0_T
          obtain ⟨l2, m2, M2, -⟩ := zkM_ok zyt0_M
          obtain ⟨w5, t, r⟩ := zr_R (i := i) (j := j) M2 (c_isSort1_0 M2) h1 h3 hz zyt0_k
          obtain ⟨ni, hi, ei⟩ := z0c h1 h2
          obtain ⟨nj, hj, ej⟩ := z0c h3 h4
          refine ⟨0, zyt0, w5, zr_co_2 zy0_m z1 h1 h2 h3 (Int32.not_lt.mp h4) ?_, t, zRm_ok zyt0_r, r⟩
          rw [ei, ej]
          refine zr_coA_2 z1 zyt0_m zt1 A hf hi hj ?_
          have hh : ¬ (ni = 0 ∧ nj = 0) := by
            rintro ⟨e1, e2⟩
            subst e1
            subst e2
            exact hz ⟨ei, ej⟩
          omega
    · obtain ⟨l, m, M1, -⟩ := zkM_ok zy1_M
      by_cases hr : i < 0 ∨ 12 < i ∨ j < 0 ∨ 12 < j
      · by_cases hn : i < 0 ∨ j < 0
        · exact zP_to (zr_co0 zy1_m hr) (zr_rco0 M1 (c_isSort1_1 M1) hn) zy1_r
        · have h1 : ¬ i < 0 := fun k => hn (Or.inl k)
          have h2 : ¬ j < 0 := fun k => hn (Or.inr k)
          obtain ⟨w5, t, r⟩ := zr_R (i := i) (j := j) M1 (c_isSort1_1 M1) h1 h2 (by
            rintro ⟨e1, e2⟩
            subst e1
            subst e2
            revert hr
            decide) zy1_k
          exact ⟨0, zy1, w5, zr_co0 zy1_m hr, t, zy1_r, r⟩
      · have h1 : ¬ i < 0 := fun k => hr (Or.inl k)
        have h2 : ¬ 12 < i := fun k => hr (Or.inr (Or.inl k))
        have h3 : ¬ j < 0 := fun k => hr (Or.inr (Or.inr (Or.inl k)))
        have h4 : ¬ 12 < j := fun k => hr (Or.inr (Or.inr (Or.inr k)))
        by_cases hz : i = 0 ∧ j = 0
        · obtain ⟨e1, e2⟩ := hz
          subst e1
          subst e2
          exact zc_coefficient_1_0_0
        · obtain ⟨g, z1⟩ := zkZ_ok zr_z1
          obtain ⟨ta, f, a1, a2, a3, g', zt1, A, hf⟩ := zkT_ok zyt1_T
          obtain ⟨l2, m2, M2, -⟩ := zkM_ok zyt1_M
          obtain ⟨w5, t, r⟩ := zr_R (i := i) (j := j) M2 (c_isSort1_1 M2) h1 h3 hz zyt1_k
          obtain ⟨ni, hi, ei⟩ := z0c h1 h2
          obtain ⟨nj, hj, ej⟩ := z0c h3 h4
          refine ⟨0, zyt1, w5, zr_co_2 zy1_m z1 h1 h2 h3 (Int32.not_lt.mp h4) ?_, t, zRm_ok zyt1_r, r⟩
          rw [ei, ej]
          refine zr_coA_2 z1 zyt1_m zt1 A hf hi hj ?_
          have hh : ¬ (ni = 0 ∧ nj = 0) := by
            rintro ⟨e1, e2⟩
            subst e1
            subst e2
            exact hz ⟨ei, ej⟩
          omega
    · obtain ⟨l, m, M1, -⟩ := zkM_ok zy2_M
      by_cases hr : i < 0 ∨ 12 < i ∨ j < 0 ∨ 12 < j
      · by_cases hn : i < 0 ∨ j < 0
        · exact zP_to (zr_co0 zy2_m hr) (zr_rco0 M1 (c_isSort1_2 M1) hn) zy2_r
        · have h1 : ¬ i < 0 := fun k => hn (Or.inl k)
          have h2 : ¬ j < 0 := fun k => hn (Or.inr k)
          obtain ⟨w5, t, r⟩ := zr_R (i := i) (j := j) M1 (c_isSort1_2 M1) h1 h2 (by
            rintro ⟨e1, e2⟩
            subst e1
            subst e2
            revert hr
            decide) zy2_k
          exact ⟨0, zy2, w5, zr_co0 zy2_m hr, t, zy2_r, r⟩
      · have h1 : ¬ i < 0 := fun k => hr (Or.inl k)
        have h2 : ¬ 12 < i := fun k => hr (Or.inr (Or.inl k))
        have h3 : ¬ j < 0 := fun k => hr (Or.inr (Or.inr (Or.inl k)))
        have h4 : ¬ 12 < j := fun k => hr (Or.inr (Or.inr (Or.inr k)))
        by_cases hz : i = 0 ∧ j = 0
        · obtain ⟨e1, e2⟩ := hz
          subst e1
          subst e2
          exact zc_coefficient_2_0_0
        · obtain ⟨g, z1⟩ := zkZ_ok zr_z2
          obtain ⟨ta, f, a1, a2, a3, g', zt1, A, hf⟩ := zkT_ok zyt2_T
          obtain ⟨l2, m2, M2, -⟩ := zkM_ok zyt2_M
          obtain ⟨w5, t, r⟩ := zr_R (i := i) (j := j) M2 (c_isSort1_2 M2) h1 h3 hz zyt2_k
          obtain ⟨ni, hi, ei⟩ := z0c h1 h2
          obtain ⟨nj, hj, ej⟩ := z0c h3 h4
          refine ⟨0, zyt2, w5, zr_co_0 zy2_m z1 h1 h2 h3 (Int32.not_lt.mp h4) ?_, t, zRm_ok zyt2_r, r⟩
          rw [ei, ej]
          refine zr_coA_0 z1 zyt2_m zt1 A hf hi hj ?_
          have hh : ¬ (ni = 0 ∧ nj = 0) := by
            rintro ⟨e1, e2⟩
            subst e1
            subst e2
            exact hz ⟨ei, ej⟩
          omega
