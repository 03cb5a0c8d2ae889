/-! the law's own walk (printed by wip/gen/lawwalk.py) -/
theorem zm_169 : zMt[169]? = some (yL_law, cL_law, 4, (some .boolean), 8, false) := rfl
theorem zd_169 (pc : Nat) : zdec 169 pc = zdl_169.lookup pc := rfl
theorem zq_8_9 : zcl 8 9 = some (0, 0, 83, 0) := by decide +kernel
theorem zq_8_12 : zcl 8 12 = some (0, 0, 125, 0) := by decide +kernel
theorem zq_8_13 : zcl 8 13 = some (3, 4, 74, 1) := by decide +kernel
theorem zq_8_17 : zcl 8 17 = some (3, 5, 106, 1) := by decide +kernel
theorem zq_8_18 : zcl 8 18 = some (3, 4, 86, 4) := by decide +kernel
theorem zq_8_22 : zcl 8 22 = some (3, 5, 141, 4) := by decide +kernel
theorem zq_8_23 : zcl 8 23 = some (3, 4, 73, 2) := by decide +kernel
theorem zq_8_27 : zcl 8 27 = some (3, 5, 104, 2) := by decide +kernel
theorem zq_8_28 : zcl 8 28 = some (3, 4, 100, 0) := by decide +kernel
theorem zq_8_32 : zcl 8 32 = some (3, 5, 168, 0) := by decide +kernel
theorem zq_8_33 : zcl 8 33 = some (3, 4, 95, 2) := by decide +kernel
theorem zq_8_36 : zcl 8 36 = some (3, 5, 159, 2) := by decide +kernel
theorem zq_8_37 : zcl 8 37 = some (3, 4, 79, 1) := by decide +kernel
theorem zq_8_40 : zcl 8 40 = some (3, 5, 115, 1) := by decide +kernel
theorem zq_8_41 : zcl 8 41 = some (3, 4, 80, 2) := by decide +kernel
theorem zq_8_44 : zcl 8 44 = some (3, 5, 117, 2) := by decide +kernel
theorem zq_8_45 : zcl 8 45 = some (3, 4, 72, 2) := by decide +kernel
theorem zq_8_48 : zcl 8 48 = some (3, 5, 103, 2) := by decide +kernel
theorem zq_8_49 : zcl 8 49 = some (3, 4, 93, 2) := by decide +kernel
theorem zq_8_52 : zcl 8 52 = some (3, 5, 154, 2) := by decide +kernel
theorem zq_8_53 : zcl 8 53 = some (3, 4, 76, 2) := by decide +kernel
theorem zq_8_56 : zcl 8 56 = some (3, 5, 111, 2) := by decide +kernel
theorem zq_8_57 : zcl 8 57 = some (3, 4, 82, 4) := by decide +kernel
theorem zq_8_60 : zcl 8 60 = some (3, 5, 124, 4) := by decide +kernel
theorem zq_8_61 : zcl 8 61 = some (3, 4, 94, 1) := by decide +kernel
theorem zq_8_64 : zcl 8 64 = some (3, 5, 158, 1) := by decide +kernel
theorem zq_8_65 : zcl 8 65 = some (3, 4, 87, 1) := by decide +kernel
theorem zq_8_68 : zcl 8 68 = some (3, 5, 142, 1) := by decide +kernel
theorem zq_8_69 : zcl 8 69 = some (3, 4, 96, 1) := by decide +kernel
theorem zq_8_72 : zcl 8 72 = some (3, 5, 160, 1) := by decide +kernel
theorem zq_8_73 : zcl 8 73 = some (3, 4, 90, 2) := by decide +kernel
theorem zq_8_76 : zcl 8 76 = some (3, 5, 144, 2) := by decide +kernel
theorem zq_8_77 : zcl 8 77 = some (3, 4, 99, 3) := by decide +kernel
theorem zq_8_81 : zcl 8 81 = some (3, 5, 166, 3) := by decide +kernel
theorem zq_8_82 : zcl 8 82 = some (3, 4, 78, 3) := by decide +kernel
theorem zq_8_85 : zcl 8 85 = some (3, 5, 114, 3) := by decide +kernel
theorem zq_8_86 : zcl 8 86 = some (3, 4, 77, 2) := by decide +kernel
theorem zq_8_89 : zcl 8 89 = some (3, 5, 113, 2) := by decide +kernel
theorem zq_8_90 : zcl 8 90 = some (3, 4, 98, 3) := by decide +kernel
theorem zq_8_93 : zcl 8 93 = some (3, 5, 162, 3) := by decide +kernel
theorem zq_8_94 : zcl 8 94 = some (3, 4, 81, 1) := by decide +kernel
theorem zq_8_97 : zcl 8 97 = some (3, 5, 123, 1) := by decide +kernel
theorem zq_8_98 : zcl 8 98 = some (3, 4, 75, 1) := by decide +kernel
theorem zq_8_101 : zcl 8 101 = some (3, 5, 107, 1) := by decide +kernel
theorem zq_8_102 : zcl 8 102 = some (3, 4, 92, 0) := by decide +kernel
theorem zq_8_105 : zcl 8 105 = some (3, 5, 147, 0) := by decide +kernel
theorem zqv_8_13_4 : zclv 8 13 4 = some (3, 4, 74, 1) := by decide +kernel
theorem zqv_8_17_5 : zclv 8 17 5 = some (3, 5, 106, 1) := by decide +kernel
theorem zqv_8_18_4 : zclv 8 18 4 = some (3, 4, 86, 4) := by decide +kernel
theorem zqv_8_22_5 : zclv 8 22 5 = some (3, 5, 141, 4) := by decide +kernel
theorem zqv_8_23_4 : zclv 8 23 4 = some (3, 4, 73, 2) := by decide +kernel
theorem zqv_8_27_5 : zclv 8 27 5 = some (3, 5, 104, 2) := by decide +kernel
theorem zqv_8_28_4 : zclv 8 28 4 = some (3, 4, 100, 0) := by decide +kernel
theorem zqv_8_32_5 : zclv 8 32 5 = some (3, 5, 168, 0) := by decide +kernel
theorem zqv_8_33_4 : zclv 8 33 4 = some (3, 4, 95, 2) := by decide +kernel
theorem zqv_8_36_5 : zclv 8 36 5 = some (3, 5, 159, 2) := by decide +kernel
theorem zqv_8_37_4 : zclv 8 37 4 = some (3, 4, 79, 1) := by decide +kernel
theorem zqv_8_40_5 : zclv 8 40 5 = some (3, 5, 115, 1) := by decide +kernel
theorem zqv_8_41_4 : zclv 8 41 4 = some (3, 4, 80, 2) := by decide +kernel
theorem zqv_8_44_5 : zclv 8 44 5 = some (3, 5, 117, 2) := by decide +kernel
theorem zqv_8_45_4 : zclv 8 45 4 = some (3, 4, 72, 2) := by decide +kernel
theorem zqv_8_48_5 : zclv 8 48 5 = some (3, 5, 103, 2) := by decide +kernel
theorem zqv_8_49_4 : zclv 8 49 4 = some (3, 4, 93, 2) := by decide +kernel
theorem zqv_8_52_5 : zclv 8 52 5 = some (3, 5, 154, 2) := by decide +kernel
theorem zqv_8_53_4 : zclv 8 53 4 = some (3, 4, 76, 2) := by decide +kernel
theorem zqv_8_56_5 : zclv 8 56 5 = some (3, 5, 111, 2) := by decide +kernel
theorem zqv_8_57_4 : zclv 8 57 4 = some (3, 4, 82, 4) := by decide +kernel
theorem zqv_8_60_5 : zclv 8 60 5 = some (3, 5, 124, 4) := by decide +kernel
theorem zqv_8_61_4 : zclv 8 61 4 = some (3, 4, 94, 1) := by decide +kernel
theorem zqv_8_64_5 : zclv 8 64 5 = some (3, 5, 158, 1) := by decide +kernel
theorem zqv_8_65_4 : zclv 8 65 4 = some (3, 4, 87, 1) := by decide +kernel
theorem zqv_8_68_5 : zclv 8 68 5 = some (3, 5, 142, 1) := by decide +kernel
theorem zqv_8_69_4 : zclv 8 69 4 = some (3, 4, 96, 1) := by decide +kernel
theorem zqv_8_72_5 : zclv 8 72 5 = some (3, 5, 160, 1) := by decide +kernel
theorem zqv_8_73_4 : zclv 8 73 4 = some (3, 4, 90, 2) := by decide +kernel
theorem zqv_8_76_5 : zclv 8 76 5 = some (3, 5, 144, 2) := by decide +kernel
theorem zqv_8_77_4 : zclv 8 77 4 = some (3, 4, 99, 3) := by decide +kernel
theorem zqv_8_81_5 : zclv 8 81 5 = some (3, 5, 166, 3) := by decide +kernel
theorem zqv_8_82_4 : zclv 8 82 4 = some (3, 4, 78, 3) := by decide +kernel
theorem zqv_8_85_5 : zclv 8 85 5 = some (3, 5, 114, 3) := by decide +kernel
theorem zqv_8_86_4 : zclv 8 86 4 = some (3, 4, 77, 2) := by decide +kernel
theorem zqv_8_89_5 : zclv 8 89 5 = some (3, 5, 113, 2) := by decide +kernel
theorem zqv_8_90_4 : zclv 8 90 4 = some (3, 4, 98, 3) := by decide +kernel
theorem zqv_8_93_5 : zclv 8 93 5 = some (3, 5, 162, 3) := by decide +kernel
theorem zqv_8_94_4 : zclv 8 94 4 = some (3, 4, 81, 1) := by decide +kernel
theorem zqv_8_97_5 : zclv 8 97 5 = some (3, 5, 123, 1) := by decide +kernel
theorem zqv_8_98_4 : zclv 8 98 4 = some (3, 4, 75, 1) := by decide +kernel
theorem zqv_8_101_5 : zclv 8 101 5 = some (3, 5, 107, 1) := by decide +kernel
theorem zqv_8_102_4 : zclv 8 102 4 = some (3, 4, 92, 0) := by decide +kernel
theorem zqv_8_105_5 : zclv 8 105 5 = some (3, 5, 147, 0) := by decide +kernel
def zB (L : Nat) (xs : Nat → Int32) : Nat → Option va_E := fun a => if a = 0 then some (.inl (9, L, .inl xs)) else none
theorem z1w_ov (L : Nat) (xs : Nat → Int32) : z1w L xs = zov (zB L xs) zx0 := rfl
theorem zt_newB {d mi pc mL o : Nat} {L : zL} {st : List Value} {w w' : zW} {r : Option Value} {y : MethodName} {b : ByteArray} {ret : Option FieldType} {ini : Bool} {pc' : Nat} {idx ci a : Nat} {B : Nat → Option va_E} (hd : zdec mi pc = some (.new idx, 3)) (hM : zMt[mi]? = some (y, b, mL, ret, o, ini)) (hp : pc + 3 = pc') (hc : zck o idx = some ci) (hn : w.2.1 = a) (k : zev d mi pc' L (.ref a :: st) (zov B (va_up w.1 a (some (.inr (ci, zdf ci))), a + 1, w.2.2 + (ztab ci).2.2)) r w') : zev d mi pc L st (zov B w) r w' := by
  subst hn
  refine zt_new hd hM hp hc ?_
  have e := zov_up (B := B) (h := w.1) (a := w.2.1) (e := .inr (ci, zdf ci)) (q := (w.2.1 + 1, w.2.2 + (ztab ci).2.2))
  rw [← e] at k
  exact k
theorem zl_in {L : Nat} {xs : Nat → Int32} {r : Option Value} {w' : zW} (k : zev 41 169 18 [some (.ref 0), some (.ref 1), some (.ref 9), some (.int 0)] [] (zov (zB L xs) zx4) r w') : zev 41 169 0 (zin 4 [.ref 0]) [] (z1w L xs) r w' := by
  show zev 41 169 0 [some (.ref 0), none, none, none] [] (zov (zB L xs) zx0) _ _
  refine zt_newB (a := 1) (ci := 4) (pc' := 3) ((zd_169 _).trans rfl) zm_169 rfl (by decide +kernel) rfl ?_
  show zev 41 169 3 [some (.ref 0), none, none, none] [.ref 1] (zov (zB L xs) zx1) _ _
  refine zt (pc' := 4) ((zd_169 _).trans rfl) zm_169 rfl rfl ?_
  refine zt_P (pc' := 7) ((zd_169 _).trans rfl) zm_169 rfl zq_8_9 (by decide) rfl (Nat.le_of_ble_eq_true rfl) rfl (zmet_ov (by decide) zx_R) ?_
  refine zt (pc' := 8) ((zd_169 _).trans rfl) zm_169 rfl rfl ?_
  refine zt_newB (a := 9) (ci := 5) (pc' := 11) ((zd_169 _).trans rfl) zm_169 rfl (by decide +kernel) zx2_n ?_
  show zev 41 169 11 [some (.ref 0), some (.ref 1), none, none] [.ref 9] (zov (zB L xs) zx3) _ _
  refine zt (pc' := 12) ((zd_169 _).trans rfl) zm_169 rfl rfl ?_
  refine zt_P (pc' := 15) ((zd_169 _).trans rfl) zm_169 rfl zq_8_12 (by decide) rfl (Nat.le_of_ble_eq_true rfl) rfl (zmet_ov (by decide) zx_M) ?_
  refine zt (pc' := 16) ((zd_169 _).trans rfl) zm_169 rfl rfl ?_
  refine zt (pc' := 17) ((zd_169 _).trans rfl) zm_169 rfl rfl ?_
  refine zt (pc' := 18) ((zd_169 _).trans rfl) zm_169 rfl rfl ?_
  exact k
theorem zB_0 {L : Nat} {xs : Nat → Int32} {w : zW} (h : w.1 0 = none) : (zov (zB L xs) w).1 0 = some (.inl (9, L, .inl xs)) := by
  simp [zov, h, zB]
theorem zB_c {L : Nat} {xs : Nat → Int32} {w : zW} {a : Nat} {e : va_E} (h : w.1 a = some e) : (zov (zB L xs) w).1 a = some e := by
  simp [zov, h]
theorem zev_ialdX {d mi pc mL o a N : Nat} {L : zL} {w w' : zW} {r : Option Value} {y : MethodName} {b : ByteArray} {ret : Option FieldType} {ini : Bool} {f : Nat → Int32} {x : Int32} {rr : List Value} {pc' : Nat} (hd : zdec mi pc = some (.iaload, 1)) (hM : zMt[mi]? = some (y, b, mL, ret, o, ini)) (hp : pc + 1 = pc') (ha : w.1 a = some (.inl (9, N, .inl f))) (hi : zbd x N = true) (kk : zev d mi pc' L (.int (f x.toNatClampNeg) :: rr) w r w') : zev d mi pc L (.int x :: .ref a :: rr) w r w' := by
  subst hp
  exact zev_H hM (zdec_ok hM hd) rfl (by simp only [zA]) (by simp only [zH, zHia, ha, hi]; simp) kk
theorem zev_alenX {d mi pc mL o a N : Nat} {L : zL} {w w' : zW} {r : Option Value} {y : MethodName} {b : ByteArray} {ret : Option FieldType} {ini : Bool} {f : Nat → Int32} {rr : List Value} {pc' : Nat} (hd : zdec mi pc = some (.arraylength, 1)) (hM : zMt[mi]? = some (y, b, mL, ret, o, ini)) (hp : pc + 1 = pc') (ha : w.1 a = some (.inl (9, N, .inl f))) (kk : zev d mi pc' L (.int (Int32.ofNat N) :: rr) w r w') : zev d mi pc L (.ref a :: rr) w r w' := by
  subst hp
  exact zev_H hM (zdec_ok hM hd) rfl (by simp only [zA]) (by simp only [zH, zHal, ha]; simp) kk
theorem zl_out {d L : Nat} {xs : Nat → Int32} {i : Int32} {w : zW} (h0 : w.1 0 = some (.inl (9, L, .inl xs))) (h : Int32.ofNat L - 5 < i) : zev d 169 18 [some (.ref 0), some (.ref 1), some (.ref 9), some (.int i)] [] w (some (.int 1)) w := by
  refine zt (pc' := 19) ((zd_169 _).trans rfl) zm_169 rfl rfl ?_
  refine zt (pc' := 20) ((zd_169 _).trans rfl) zm_169 rfl rfl ?_
  refine zev_alenX (pc' := 21) ((zd_169 _).trans rfl) zm_169 rfl h0 ?_
  refine zt (pc' := 22) ((zd_169 _).trans rfl) zm_169 rfl rfl ?_
  refine zt (pc' := 23) ((zd_169 _).trans rfl) zm_169 rfl rfl ?_
  refine zt_icT (tgt := 828) (pc' := 26) ((zd_169 _).trans rfl) zm_169 rfl rfl (zgt h) ?_
  refine zt (pc' := 829) ((zd_169 _).trans rfl) zm_169 rfl rfl ?_
  exact zte ((zd_169 _).trans rfl) zm_169 rfl
theorem zl_go {d : Nat} {xs : Nat → Int32} {w w' : zW} {r : Option Value} (h0 : w.1 0 = some (.inl (9, 5, .inl xs))) (k : zev d 169 32 [some (.ref 0), some (.ref 1), some (.ref 9), some (.int 0)] [.int (xs 0 &&& 31)] w r w') : zev d 169 18 [some (.ref 0), some (.ref 1), some (.ref 9), some (.int 0)] [] w r w' := by
  refine zt (pc' := 19) ((zd_169 _).trans rfl) zm_169 rfl rfl ?_
  refine zt (pc' := 20) ((zd_169 _).trans rfl) zm_169 rfl rfl ?_
  refine zev_alenX (pc' := 21) ((zd_169 _).trans rfl) zm_169 rfl h0 ?_
  refine zt (pc' := 22) ((zd_169 _).trans rfl) zm_169 rfl rfl ?_
  refine zt (pc' := 23) ((zd_169 _).trans rfl) zm_169 rfl rfl ?_
  refine zt_icF (tgt := 828) (pc' := 26) ((zd_169 _).trans rfl) zm_169 rfl rfl (zngt (by decide)) ?_
  refine zt (pc' := 27) ((zd_169 _).trans rfl) zm_169 rfl rfl ?_
  refine zt (pc' := 28) ((zd_169 _).trans rfl) zm_169 rfl rfl ?_
  refine zev_ialdX (pc' := 29) ((zd_169 _).trans rfl) zm_169 rfl h0 (by decide) ?_
  refine zt (pc' := 31) ((zd_169 _).trans rfl) zm_169 rfl rfl ?_
  refine zt (pc' := 32) ((zd_169 _).trans rfl) zm_169 rfl rfl ?_
  exact k
theorem zl_begin {xs : Nat → Int32} (h : zP 74 106 [.int (xs 1)]) : ∃ w', zev 41 169 136 [some (.ref 0), some (.ref 1), some (.ref 9), some (.int 0)] [] (zov (zB 5 xs) zx4) (some (.int 1)) w' ∧ w'.2.1 ≤ 600000 ∧ w'.2.2 ≤ 7302250 := by
  obtain ⟨v, w1, w2, h1, h2, q1, q2⟩ := h
  obtain ⟨fs, h9⟩ := q1.2.2.2.2
  refine ⟨zov (zB 5 xs) w2, ?_, q2.2.1, q2.2.2.1⟩
  refine zt (pc' := 137) ((zd_169 _).trans rfl) zm_169 rfl rfl ?_
  refine zt (pc' := 138) ((zd_169 _).trans rfl) zm_169 rfl rfl ?_
  refine zt (pc' := 139) ((zd_169 _).trans rfl) zm_169 rfl rfl ?_
  refine zt (pc' := 140) ((zd_169 _).trans rfl) zm_169 rfl rfl ?_
  refine zt (pc' := 141) ((zd_169 _).trans rfl) zm_169 rfl rfl ?_
  refine zev_ialdX (pc' := 142) ((zd_169 _).trans rfl) zm_169 rfl (zB_0 zx4_Rm.2.2.2.1) (by decide) ?_
  refine zt_V (pc' := 145) ((zd_169 _).trans rfl) zm_169 rfl zq_8_13 rfl (Nat.le_of_ble_eq_true rfl) (zB_c zx4_1) zqv_8_13_4 (by decide) rfl (zmet_ov zx4_n h1) ?_
  refine zt (pc' := 146) ((zd_169 _).trans rfl) zm_169 rfl rfl ?_
  refine zt (pc' := 147) ((zd_169 _).trans rfl) zm_169 rfl rfl ?_
  refine zt (pc' := 148) ((zd_169 _).trans rfl) zm_169 rfl rfl ?_
  refine zt (pc' := 149) ((zd_169 _).trans rfl) zm_169 rfl rfl ?_
  refine zt (pc' := 150) ((zd_169 _).trans rfl) zm_169 rfl rfl ?_
  refine zev_ialdX (pc' := 151) ((zd_169 _).trans rfl) zm_169 rfl (zB_0 q1.2.2.2.1) (by decide) ?_
  refine zt_V (pc' := 154) ((zd_169 _).trans rfl) zm_169 rfl zq_8_17 rfl (Nat.le_of_ble_eq_true rfl) (zB_c h9) zqv_8_17_5 (by decide) rfl (zmet_ov q1.1 h2) ?_
  refine zt_icT (tgt := 822) (pc' := 157) ((zd_169 _).trans rfl) zm_169 rfl rfl (zeq rfl) ?_
  refine zt (pc' := 825) ((zd_169 _).trans rfl) zm_169 rfl rfl ?_
  refine zt (pc' := 18) ((zd_169 _).trans rfl) zm_169 rfl rfl ?_
  exact zl_out (zB_0 q2.2.2.2.1) (by decide)
theorem zl_joint {xs : Nat → Int32} (h : zP 86 141 [.int (xs 1), .int (xs 2), .int (xs 3), .int (xs 4)]) : ∃ w', zev 41 169 159 [some (.ref 0), some (.ref 1), some (.ref 9), some (.int 0)] [] (zov (zB 5 xs) zx4) (some (.int 1)) w' ∧ w'.2.1 ≤ 600000 ∧ w'.2.2 ≤ 7302250 := by
  obtain ⟨v, w1, w2, h1, h2, q1, q2⟩ := h
  obtain ⟨fs, h9⟩ := q1.2.2.2.2
  refine ⟨zov (zB 5 xs) w2, ?_, q2.2.1, q2.2.2.1⟩
  refine zt (pc' := 160) ((zd_169 _).trans rfl) zm_169 rfl rfl ?_
  refine zt (pc' := 161) ((zd_169 _).trans rfl) zm_169 rfl rfl ?_
  refine zt (pc' := 162) ((zd_169 _).trans rfl) zm_169 rfl rfl ?_
  refine zt (pc' := 163) ((zd_169 _).trans rfl) zm_169 rfl rfl ?_
  refine zt (pc' := 164) ((zd_169 _).trans rfl) zm_169 rfl rfl ?_
  refine zev_ialdX (pc' := 165) ((zd_169 _).trans rfl) zm_169 rfl (zB_0 zx4_Rm.2.2.2.1) (by decide) ?_
  refine zt (pc' := 166) ((zd_169 _).trans rfl) zm_169 rfl rfl ?_
  refine zt (pc' := 167) ((zd_169 _).trans rfl) zm_169 rfl rfl ?_
  refine zt (pc' := 168) ((zd_169 _).trans rfl) zm_169 rfl rfl ?_
  refine zt (pc' := 169) ((zd_169 _).trans rfl) zm_169 rfl rfl ?_
  refine zev_ialdX (pc' := 170) ((zd_169 _).trans rfl) zm_169 rfl (zB_0 zx4_Rm.2.2.2.1) (by decide) ?_
  refine zt (pc' := 171) ((zd_169 _).trans rfl) zm_169 rfl rfl ?_
  refine zt (pc' := 172) ((zd_169 _).trans rfl) zm_169 rfl rfl ?_
  refine zt (pc' := 173) ((zd_169 _).trans rfl) zm_169 rfl rfl ?_
  refine zt (pc' := 174) ((zd_169 _).trans rfl) zm_169 rfl rfl ?_
  refine zev_ialdX (pc' := 175) ((zd_169 _).trans rfl) zm_169 rfl (zB_0 zx4_Rm.2.2.2.1) (by decide) ?_
  refine zt (pc' := 176) ((zd_169 _).trans rfl) zm_169 rfl rfl ?_
  refine zt (pc' := 177) ((zd_169 _).trans rfl) zm_169 rfl rfl ?_
  refine zt (pc' := 178) ((zd_169 _).trans rfl) zm_169 rfl rfl ?_
  refine zt (pc' := 179) ((zd_169 _).trans rfl) zm_169 rfl rfl ?_
  refine zev_ialdX (pc' := 180) ((zd_169 _).trans rfl) zm_169 rfl (zB_0 zx4_Rm.2.2.2.1) (by decide) ?_
  refine zt_V (pc' := 183) ((zd_169 _).trans rfl) zm_169 rfl zq_8_18 rfl (Nat.le_of_ble_eq_true rfl) (zB_c zx4_1) zqv_8_18_4 (by decide) rfl (zmet_ov zx4_n h1) ?_
  refine zt (pc' := 184) ((zd_169 _).trans rfl) zm_169 rfl rfl ?_
  refine zt (pc' := 185) ((zd_169 _).trans rfl) zm_169 rfl rfl ?_
  refine zt (pc' := 186) ((zd_169 _).trans rfl) zm_169 rfl rfl ?_
  refine zt (pc' := 187) ((zd_169 _).trans rfl) zm_169 rfl rfl ?_
  refine zt (pc' := 188) ((zd_169 _).trans rfl) zm_169 rfl rfl ?_
  refine zev_ialdX (pc' := 189) ((zd_169 _).trans rfl) zm_169 rfl (zB_0 q1.2.2.2.1) (by decide) ?_
  refine zt (pc' := 190) ((zd_169 _).trans rfl) zm_169 rfl rfl ?_
  refine zt (pc' := 191) ((zd_169 _).trans rfl) zm_169 rfl rfl ?_
  refine zt (pc' := 192) ((zd_169 _).trans rfl) zm_169 rfl rfl ?_
  refine zt (pc' := 193) ((zd_169 _).trans rfl) zm_169 rfl rfl ?_
  refine zev_ialdX (pc' := 194) ((zd_169 _).trans rfl) zm_169 rfl (zB_0 q1.2.2.2.1) (by decide) ?_
  refine zt (pc' := 195) ((zd_169 _).trans rfl) zm_169 rfl rfl ?_
  refine zt (pc' := 196) ((zd_169 _).trans rfl) zm_169 rfl rfl ?_
  refine zt (pc' := 197) ((zd_169 _).trans rfl) zm_169 rfl rfl ?_
  refine zt (pc' := 198) ((zd_169 _).trans rfl) zm_169 rfl rfl ?_
  refine zev_ialdX (pc' := 199) ((zd_169 _).trans rfl) zm_169 rfl (zB_0 q1.2.2.2.1) (by decide) ?_
  refine zt (pc' := 200) ((zd_169 _).trans rfl) zm_169 rfl rfl ?_
  refine zt (pc' := 201) ((zd_169 _).trans rfl) zm_169 rfl rfl ?_
  refine zt (pc' := 202) ((zd_169 _).trans rfl) zm_169 rfl rfl ?_
  refine zt (pc' := 203) ((zd_169 _).trans rfl) zm_169 rfl rfl ?_
  refine zev_ialdX (pc' := 204) ((zd_169 _).trans rfl) zm_169 rfl (zB_0 q1.2.2.2.1) (by decide) ?_
  refine zt_V (pc' := 207) ((zd_169 _).trans rfl) zm_169 rfl zq_8_22 rfl (Nat.le_of_ble_eq_true rfl) (zB_c h9) zqv_8_22_5 (by decide) rfl (zmet_ov q1.1 h2) ?_
  refine zt_icT (tgt := 822) (pc' := 210) ((zd_169 _).trans rfl) zm_169 rfl rfl (zeq rfl) ?_
  refine zt (pc' := 825) ((zd_169 _).trans rfl) zm_169 rfl rfl ?_
  refine zt (pc' := 18) ((zd_169 _).trans rfl) zm_169 rfl rfl ?_
  exact zl_out (zB_0 q2.2.2.2.1) (by decide)
theorem zl_bar {xs : Nat → Int32} (h : zP 73 104 [.int (xs 1), .int (xs 2)]) : ∃ w', zev 41 169 212 [some (.ref 0), some (.ref 1), some (.ref 9), some (.int 0)] [] (zov (zB 5 xs) zx4) (some (.int 1)) w' ∧ w'.2.1 ≤ 600000 ∧ w'.2.2 ≤ 7302250 := by
  obtain ⟨v, w1, w2, h1, h2, q1, q2⟩ := h
  obtain ⟨fs, h9⟩ := q1.2.2.2.2
  refine ⟨zov (zB 5 xs) w2, ?_, q2.2.1, q2.2.2.1⟩
  refine zt (pc' := 213) ((zd_169 _).trans rfl) zm_169 rfl rfl ?_
  refine zt (pc' := 214) ((zd_169 _).trans rfl) zm_169 rfl rfl ?_
  refine zt (pc' := 215) ((zd_169 _).trans rfl) zm_169 rfl rfl ?_
  refine zt (pc' := 216) ((zd_169 _).trans rfl) zm_169 rfl rfl ?_
  refine zt (pc' := 217) ((zd_169 _).trans rfl) zm_169 rfl rfl ?_
  refine zev_ialdX (pc' := 218) ((zd_169 _).trans rfl) zm_169 rfl (zB_0 zx4_Rm.2.2.2.1) (by decide) ?_
  refine zt (pc' := 219) ((zd_169 _).trans rfl) zm_169 rfl rfl ?_
  refine zt (pc' := 220) ((zd_169 _).trans rfl) zm_169 rfl rfl ?_
  refine zt (pc' := 221) ((zd_169 _).trans rfl) zm_169 rfl rfl ?_
  refine zt (pc' := 222) ((zd_169 _).trans rfl) zm_169 rfl rfl ?_
  refine zev_ialdX (pc' := 223) ((zd_169 _).trans rfl) zm_169 rfl (zB_0 zx4_Rm.2.2.2.1) (by decide) ?_
  refine zt_V (pc' := 226) ((zd_169 _).trans rfl) zm_169 rfl zq_8_23 rfl (Nat.le_of_ble_eq_true rfl) (zB_c zx4_1) zqv_8_23_4 (by decide) rfl (zmet_ov zx4_n h1) ?_
  refine zt (pc' := 227) ((zd_169 _).trans rfl) zm_169 rfl rfl ?_
  refine zt (pc' := 228) ((zd_169 _).trans rfl) zm_169 rfl rfl ?_
  refine zt (pc' := 229) ((zd_169 _).trans rfl) zm_169 rfl rfl ?_
  refine zt (pc' := 230) ((zd_169 _).trans rfl) zm_169 rfl rfl ?_
  refine zt (pc' := 231) ((zd_169 _).trans rfl) zm_169 rfl rfl ?_
  refine zev_ialdX (pc' := 232) ((zd_169 _).trans rfl) zm_169 rfl (zB_0 q1.2.2.2.1) (by decide) ?_
  refine zt (pc' := 233) ((zd_169 _).trans rfl) zm_169 rfl rfl ?_
  refine zt (pc' := 234) ((zd_169 _).trans rfl) zm_169 rfl rfl ?_
  refine zt (pc' := 235) ((zd_169 _).trans rfl) zm_169 rfl rfl ?_
  refine zt (pc' := 236) ((zd_169 _).trans rfl) zm_169 rfl rfl ?_
  refine zev_ialdX (pc' := 237) ((zd_169 _).trans rfl) zm_169 rfl (zB_0 q1.2.2.2.1) (by decide) ?_
  refine zt_V (pc' := 240) ((zd_169 _).trans rfl) zm_169 rfl zq_8_27 rfl (Nat.le_of_ble_eq_true rfl) (zB_c h9) zqv_8_27_5 (by decide) rfl (zmet_ov q1.1 h2) ?_
  refine zt_icT (tgt := 822) (pc' := 243) ((zd_169 _).trans rfl) zm_169 rfl rfl (zeq rfl) ?_
  refine zt (pc' := 825) ((zd_169 _).trans rfl) zm_169 rfl rfl ?_
  refine zt (pc' := 18) ((zd_169 _).trans rfl) zm_169 rfl rfl ?_
  exact zl_out (zB_0 q2.2.2.2.1) (by decide)
theorem zl_unbar {xs : Nat → Int32} (h : zP 100 168 []) : ∃ w', zev 41 169 245 [some (.ref 0), some (.ref 1), some (.ref 9), some (.int 0)] [] (zov (zB 5 xs) zx4) (some (.int 1)) w' ∧ w'.2.1 ≤ 600000 ∧ w'.2.2 ≤ 7302250 := by
  obtain ⟨v, w1, w2, h1, h2, q1, q2⟩ := h
  obtain ⟨fs, h9⟩ := q1.2.2.2.2
  refine ⟨zov (zB 5 xs) w2, ?_, q2.2.1, q2.2.2.1⟩
  refine zt (pc' := 246) ((zd_169 _).trans rfl) zm_169 rfl rfl ?_
  refine zt_V (pc' := 249) ((zd_169 _).trans rfl) zm_169 rfl zq_8_28 rfl (Nat.le_of_ble_eq_true rfl) (zB_c zx4_1) zqv_8_28_4 (by decide) rfl (zmet_ov zx4_n h1) ?_
  refine zt (pc' := 250) ((zd_169 _).trans rfl) zm_169 rfl rfl ?_
  refine zt_V (pc' := 253) ((zd_169 _).trans rfl) zm_169 rfl zq_8_32 rfl (Nat.le_of_ble_eq_true rfl) (zB_c h9) zqv_8_32_5 (by decide) rfl (zmet_ov q1.1 h2) ?_
  refine zt_icT (tgt := 822) (pc' := 256) ((zd_169 _).trans rfl) zm_169 rfl rfl (zeq rfl) ?_
  refine zt (pc' := 825) ((zd_169 _).trans rfl) zm_169 rfl rfl ?_
  refine zt (pc' := 18) ((zd_169 _).trans rfl) zm_169 rfl rfl ?_
  exact zl_out (zB_0 q2.2.2.2.1) (by decide)
theorem zl_sign {xs : Nat → Int32} (h : zP 95 159 [.int (xs 1), .int (xs 2)]) : ∃ w', zev 41 169 258 [some (.ref 0), some (.ref 1), some (.ref 9), some (.int 0)] [] (zov (zB 5 xs) zx4) (some (.int 1)) w' ∧ w'.2.1 ≤ 600000 ∧ w'.2.2 ≤ 7302250 := by
  obtain ⟨v, w1, w2, h1, h2, q1, q2⟩ := h
  obtain ⟨fs, h9⟩ := q1.2.2.2.2
  refine ⟨zov (zB 5 xs) w2, ?_, q2.2.1, q2.2.2.1⟩
  refine zt (pc' := 259) ((zd_169 _).trans rfl) zm_169 rfl rfl ?_
  refine zt (pc' := 260) ((zd_169 _).trans rfl) zm_169 rfl rfl ?_
  refine zt (pc' := 261) ((zd_169 _).trans rfl) zm_169 rfl rfl ?_
  refine zt (pc' := 262) ((zd_169 _).trans rfl) zm_169 rfl rfl ?_
  refine zt (pc' := 263) ((zd_169 _).trans rfl) zm_169 rfl rfl ?_
  refine zev_ialdX (pc' := 264) ((zd_169 _).trans rfl) zm_169 rfl (zB_0 zx4_Rm.2.2.2.1) (by decide) ?_
  refine zt (pc' := 265) ((zd_169 _).trans rfl) zm_169 rfl rfl ?_
  refine zt (pc' := 266) ((zd_169 _).trans rfl) zm_169 rfl rfl ?_
  refine zt (pc' := 267) ((zd_169 _).trans rfl) zm_169 rfl rfl ?_
  refine zt (pc' := 268) ((zd_169 _).trans rfl) zm_169 rfl rfl ?_
  refine zev_ialdX (pc' := 269) ((zd_169 _).trans rfl) zm_169 rfl (zB_0 zx4_Rm.2.2.2.1) (by decide) ?_
  refine zt_V (pc' := 272) ((zd_169 _).trans rfl) zm_169 rfl zq_8_33 rfl (Nat.le_of_ble_eq_true rfl) (zB_c zx4_1) zqv_8_33_4 (by decide) rfl (zmet_ov zx4_n h1) ?_
  refine zt (pc' := 273) ((zd_169 _).trans rfl) zm_169 rfl rfl ?_
  refine zt (pc' := 274) ((zd_169 _).trans rfl) zm_169 rfl rfl ?_
  refine zt (pc' := 275) ((zd_169 _).trans rfl) zm_169 rfl rfl ?_
  refine zt (pc' := 276) ((zd_169 _).trans rfl) zm_169 rfl rfl ?_
  refine zt (pc' := 277) ((zd_169 _).trans rfl) zm_169 rfl rfl ?_
  refine zev_ialdX (pc' := 278) ((zd_169 _).trans rfl) zm_169 rfl (zB_0 q1.2.2.2.1) (by decide) ?_
  refine zt (pc' := 279) ((zd_169 _).trans rfl) zm_169 rfl rfl ?_
  refine zt (pc' := 280) ((zd_169 _).trans rfl) zm_169 rfl rfl ?_
  refine zt (pc' := 281) ((zd_169 _).trans rfl) zm_169 rfl rfl ?_
  refine zt (pc' := 282) ((zd_169 _).trans rfl) zm_169 rfl rfl ?_
  refine zev_ialdX (pc' := 283) ((zd_169 _).trans rfl) zm_169 rfl (zB_0 q1.2.2.2.1) (by decide) ?_
  refine zt_V (pc' := 286) ((zd_169 _).trans rfl) zm_169 rfl zq_8_36 rfl (Nat.le_of_ble_eq_true rfl) (zB_c h9) zqv_8_36_5 (by decide) rfl (zmet_ov q1.1 h2) ?_
  refine zt_icT (tgt := 822) (pc' := 289) ((zd_169 _).trans rfl) zm_169 rfl rfl (zeq rfl) ?_
  refine zt (pc' := 825) ((zd_169 _).trans rfl) zm_169 rfl rfl ?_
  refine zt (pc' := 18) ((zd_169 _).trans rfl) zm_169 rfl rfl ?_
  exact zl_out (zB_0 q2.2.2.2.1) (by decide)
theorem zl_count {xs : Nat → Int32} (h : zP 79 115 [.int (xs 1)]) : ∃ w', zev 41 169 291 [some (.ref 0), some (.ref 1), some (.ref 9), some (.int 0)] [] (zov (zB 5 xs) zx4) (some (.int 1)) w' ∧ w'.2.1 ≤ 600000 ∧ w'.2.2 ≤ 7302250 := by
  obtain ⟨v, w1, w2, h1, h2, q1, q2⟩ := h
  obtain ⟨fs, h9⟩ := q1.2.2.2.2
  refine ⟨zov (zB 5 xs) w2, ?_, q2.2.1, q2.2.2.1⟩
  refine zt (pc' := 292) ((zd_169 _).trans rfl) zm_169 rfl rfl ?_
  refine zt (pc' := 293) ((zd_169 _).trans rfl) zm_169 rfl rfl ?_
  refine zt (pc' := 294) ((zd_169 _).trans rfl) zm_169 rfl rfl ?_
  refine zt (pc' := 295) ((zd_169 _).trans rfl) zm_169 rfl rfl ?_
  refine zt (pc' := 296) ((zd_169 _).trans rfl) zm_169 rfl rfl ?_
  refine zev_ialdX (pc' := 297) ((zd_169 _).trans rfl) zm_169 rfl (zB_0 zx4_Rm.2.2.2.1) (by decide) ?_
  refine zt_V (pc' := 300) ((zd_169 _).trans rfl) zm_169 rfl zq_8_37 rfl (Nat.le_of_ble_eq_true rfl) (zB_c zx4_1) zqv_8_37_4 (by decide) rfl (zmet_ov zx4_n h1) ?_
  refine zt (pc' := 301) ((zd_169 _).trans rfl) zm_169 rfl rfl ?_
  refine zt (pc' := 302) ((zd_169 _).trans rfl) zm_169 rfl rfl ?_
  refine zt (pc' := 303) ((zd_169 _).trans rfl) zm_169 rfl rfl ?_
  refine zt (pc' := 304) ((zd_169 _).trans rfl) zm_169 rfl rfl ?_
  refine zt (pc' := 305) ((zd_169 _).trans rfl) zm_169 rfl rfl ?_
  refine zev_ialdX (pc' := 306) ((zd_169 _).trans rfl) zm_169 rfl (zB_0 q1.2.2.2.1) (by decide) ?_
  refine zt_V (pc' := 309) ((zd_169 _).trans rfl) zm_169 rfl zq_8_40 rfl (Nat.le_of_ble_eq_true rfl) (zB_c h9) zqv_8_40_5 (by decide) rfl (zmet_ov q1.1 h2) ?_
  refine zt_icT (tgt := 822) (pc' := 312) ((zd_169 _).trans rfl) zm_169 rfl rfl (zeq rfl) ?_
  refine zt (pc' := 825) ((zd_169 _).trans rfl) zm_169 rfl rfl ?_
  refine zt (pc' := 18) ((zd_169 _).trans rfl) zm_169 rfl rfl ?_
  exact zl_out (zB_0 q2.2.2.2.1) (by decide)
theorem zl_end {xs : Nat → Int32} (h : zP 80 117 [.int (xs 1), .int (xs 2)]) : ∃ w', zev 41 169 314 [some (.ref 0), some (.ref 1), some (.ref 9), some (.int 0)] [] (zov (zB 5 xs) zx4) (some (.int 1)) w' ∧ w'.2.1 ≤ 600000 ∧ w'.2.2 ≤ 7302250 := by
  obtain ⟨v, w1, w2, h1, h2, q1, q2⟩ := h
  obtain ⟨fs, h9⟩ := q1.2.2.2.2
  refine ⟨zov (zB 5 xs) w2, ?_, q2.2.1, q2.2.2.1⟩
  refine zt (pc' := 315) ((zd_169 _).trans rfl) zm_169 rfl rfl ?_
  refine zt (pc' := 316) ((zd_169 _).trans rfl) zm_169 rfl rfl ?_
  refine zt (pc' := 317) ((zd_169 _).trans rfl) zm_169 rfl rfl ?_
  refine zt (pc' := 318) ((zd_169 _).trans rfl) zm_169 rfl rfl ?_
  refine zt (pc' := 319) ((zd_169 _).trans rfl) zm_169 rfl rfl ?_
  refine zev_ialdX (pc' := 320) ((zd_169 _).trans rfl) zm_169 rfl (zB_0 zx4_Rm.2.2.2.1) (by decide) ?_
  refine zt (pc' := 321) ((zd_169 _).trans rfl) zm_169 rfl rfl ?_
  refine zt (pc' := 322) ((zd_169 _).trans rfl) zm_169 rfl rfl ?_
  refine zt (pc' := 323) ((zd_169 _).trans rfl) zm_169 rfl rfl ?_
  refine zt (pc' := 324) ((zd_169 _).trans rfl) zm_169 rfl rfl ?_
  refine zev_ialdX (pc' := 325) ((zd_169 _).trans rfl) zm_169 rfl (zB_0 zx4_Rm.2.2.2.1) (by decide) ?_
  refine zt_V (pc' := 328) ((zd_169 _).trans rfl) zm_169 rfl zq_8_41 rfl (Nat.le_of_ble_eq_true rfl) (zB_c zx4_1) zqv_8_41_4 (by decide) rfl (zmet_ov zx4_n h1) ?_
  refine zt (pc' := 329) ((zd_169 _).trans rfl) zm_169 rfl rfl ?_
  refine zt (pc' := 330) ((zd_169 _).trans rfl) zm_169 rfl rfl ?_
  refine zt (pc' := 331) ((zd_169 _).trans rfl) zm_169 rfl rfl ?_
  refine zt (pc' := 332) ((zd_169 _).trans rfl) zm_169 rfl rfl ?_
  refine zt (pc' := 333) ((zd_169 _).trans rfl) zm_169 rfl rfl ?_
  refine zev_ialdX (pc' := 334) ((zd_169 _).trans rfl) zm_169 rfl (zB_0 q1.2.2.2.1) (by decide) ?_
  refine zt (pc' := 335) ((zd_169 _).trans rfl) zm_169 rfl rfl ?_
  refine zt (pc' := 336) ((zd_169 _).trans rfl) zm_169 rfl rfl ?_
  refine zt (pc' := 337) ((zd_169 _).trans rfl) zm_169 rfl rfl ?_
  refine zt (pc' := 338) ((zd_169 _).trans rfl) zm_169 rfl rfl ?_
  refine zev_ialdX (pc' := 339) ((zd_169 _).trans rfl) zm_169 rfl (zB_0 q1.2.2.2.1) (by decide) ?_
  refine zt_V (pc' := 342) ((zd_169 _).trans rfl) zm_169 rfl zq_8_44 rfl (Nat.le_of_ble_eq_true rfl) (zB_c h9) zqv_8_44_5 (by decide) rfl (zmet_ov q1.1 h2) ?_
  refine zt_icT (tgt := 822) (pc' := 345) ((zd_169 _).trans rfl) zm_169 rfl rfl (zeq rfl) ?_
  refine zt (pc' := 825) ((zd_169 _).trans rfl) zm_169 rfl rfl ?_
  refine zt (pc' := 18) ((zd_169 _).trans rfl) zm_169 rfl rfl ?_
  exact zl_out (zB_0 q2.2.2.2.1) (by decide)
theorem zl_at {xs : Nat → Int32} (h : zP 72 103 [.int (xs 1), .int (xs 2)]) : ∃ w', zev 41 169 347 [some (.ref 0), some (.ref 1), some (.ref 9), some (.int 0)] [] (zov (zB 5 xs) zx4) (some (.int 1)) w' ∧ w'.2.1 ≤ 600000 ∧ w'.2.2 ≤ 7302250 := by
  obtain ⟨v, w1, w2, h1, h2, q1, q2⟩ := h
  obtain ⟨fs, h9⟩ := q1.2.2.2.2
  refine ⟨zov (zB 5 xs) w2, ?_, q2.2.1, q2.2.2.1⟩
  refine zt (pc' := 348) ((zd_169 _).trans rfl) zm_169 rfl rfl ?_
  refine zt (pc' := 349) ((zd_169 _).trans rfl) zm_169 rfl rfl ?_
  refine zt (pc' := 350) ((zd_169 _).trans rfl) zm_169 rfl rfl ?_
  refine zt (pc' := 351) ((zd_169 _).trans rfl) zm_169 rfl rfl ?_
  refine zt (pc' := 352) ((zd_169 _).trans rfl) zm_169 rfl rfl ?_
  refine zev_ialdX (pc' := 353) ((zd_169 _).trans rfl) zm_169 rfl (zB_0 zx4_Rm.2.2.2.1) (by decide) ?_
  refine zt (pc' := 354) ((zd_169 _).trans rfl) zm_169 rfl rfl ?_
  refine zt (pc' := 355) ((zd_169 _).trans rfl) zm_169 rfl rfl ?_
  refine zt (pc' := 356) ((zd_169 _).trans rfl) zm_169 rfl rfl ?_
  refine zt (pc' := 357) ((zd_169 _).trans rfl) zm_169 rfl rfl ?_
  refine zev_ialdX (pc' := 358) ((zd_169 _).trans rfl) zm_169 rfl (zB_0 zx4_Rm.2.2.2.1) (by decide) ?_
  refine zt_V (pc' := 361) ((zd_169 _).trans rfl) zm_169 rfl zq_8_45 rfl (Nat.le_of_ble_eq_true rfl) (zB_c zx4_1) zqv_8_45_4 (by decide) rfl (zmet_ov zx4_n h1) ?_
  refine zt (pc' := 362) ((zd_169 _).trans rfl) zm_169 rfl rfl ?_
  refine zt (pc' := 363) ((zd_169 _).trans rfl) zm_169 rfl rfl ?_
  refine zt (pc' := 364) ((zd_169 _).trans rfl) zm_169 rfl rfl ?_
  refine zt (pc' := 365) ((zd_169 _).trans rfl) zm_169 rfl rfl ?_
  refine zt (pc' := 366) ((zd_169 _).trans rfl) zm_169 rfl rfl ?_
  refine zev_ialdX (pc' := 367) ((zd_169 _).trans rfl) zm_169 rfl (zB_0 q1.2.2.2.1) (by decide) ?_
  refine zt (pc' := 368) ((zd_169 _).trans rfl) zm_169 rfl rfl ?_
  refine zt (pc' := 369) ((zd_169 _).trans rfl) zm_169 rfl rfl ?_
  refine zt (pc' := 370) ((zd_169 _).trans rfl) zm_169 rfl rfl ?_
  refine zt (pc' := 371) ((zd_169 _).trans rfl) zm_169 rfl rfl ?_
  refine zev_ialdX (pc' := 372) ((zd_169 _).trans rfl) zm_169 rfl (zB_0 q1.2.2.2.1) (by decide) ?_
  refine zt_V (pc' := 375) ((zd_169 _).trans rfl) zm_169 rfl zq_8_48 rfl (Nat.le_of_ble_eq_true rfl) (zB_c h9) zqv_8_48_5 (by decide) rfl (zmet_ov q1.1 h2) ?_
  refine zt_icT (tgt := 822) (pc' := 378) ((zd_169 _).trans rfl) zm_169 rfl rfl (zeq rfl) ?_
  refine zt (pc' := 825) ((zd_169 _).trans rfl) zm_169 rfl rfl ?_
  refine zt (pc' := 18) ((zd_169 _).trans rfl) zm_169 rfl rfl ?_
  exact zl_out (zB_0 q2.2.2.2.1) (by decide)
theorem zl_rank {xs : Nat → Int32} (h : zP 93 154 [.int (xs 1), .int (xs 2)]) : ∃ w', zev 41 169 380 [some (.ref 0), some (.ref 1), some (.ref 9), some (.int 0)] [] (zov (zB 5 xs) zx4) (some (.int 1)) w' ∧ w'.2.1 ≤ 600000 ∧ w'.2.2 ≤ 7302250 := by
  obtain ⟨v, w1, w2, h1, h2, q1, q2⟩ := h
  obtain ⟨fs, h9⟩ := q1.2.2.2.2
  refine ⟨zov (zB 5 xs) w2, ?_, q2.2.1, q2.2.2.1⟩
  refine zt (pc' := 381) ((zd_169 _).trans rfl) zm_169 rfl rfl ?_
  refine zt (pc' := 382) ((zd_169 _).trans rfl) zm_169 rfl rfl ?_
  refine zt (pc' := 383) ((zd_169 _).trans rfl) zm_169 rfl rfl ?_
  refine zt (pc' := 384) ((zd_169 _).trans rfl) zm_169 rfl rfl ?_
  refine zt (pc' := 385) ((zd_169 _).trans rfl) zm_169 rfl rfl ?_
  refine zev_ialdX (pc' := 386) ((zd_169 _).trans rfl) zm_169 rfl (zB_0 zx4_Rm.2.2.2.1) (by decide) ?_
  refine zt (pc' := 387) ((zd_169 _).trans rfl) zm_169 rfl rfl ?_
  refine zt (pc' := 388) ((zd_169 _).trans rfl) zm_169 rfl rfl ?_
  refine zt (pc' := 389) ((zd_169 _).trans rfl) zm_169 rfl rfl ?_
  refine zt (pc' := 390) ((zd_169 _).trans rfl) zm_169 rfl rfl ?_
  refine zev_ialdX (pc' := 391) ((zd_169 _).trans rfl) zm_169 rfl (zB_0 zx4_Rm.2.2.2.1) (by decide) ?_
  refine zt_V (pc' := 394) ((zd_169 _).trans rfl) zm_169 rfl zq_8_49 rfl (Nat.le_of_ble_eq_true rfl) (zB_c zx4_1) zqv_8_49_4 (by decide) rfl (zmet_ov zx4_n h1) ?_
  refine zt (pc' := 395) ((zd_169 _).trans rfl) zm_169 rfl rfl ?_
  refine zt (pc' := 396) ((zd_169 _).trans rfl) zm_169 rfl rfl ?_
  refine zt (pc' := 397) ((zd_169 _).trans rfl) zm_169 rfl rfl ?_
  refine zt (pc' := 398) ((zd_169 _).trans rfl) zm_169 rfl rfl ?_
  refine zt (pc' := 399) ((zd_169 _).trans rfl) zm_169 rfl rfl ?_
  refine zev_ialdX (pc' := 400) ((zd_169 _).trans rfl) zm_169 rfl (zB_0 q1.2.2.2.1) (by decide) ?_
  refine zt (pc' := 401) ((zd_169 _).trans rfl) zm_169 rfl rfl ?_
  refine zt (pc' := 402) ((zd_169 _).trans rfl) zm_169 rfl rfl ?_
  refine zt (pc' := 403) ((zd_169 _).trans rfl) zm_169 rfl rfl ?_
  refine zt (pc' := 404) ((zd_169 _).trans rfl) zm_169 rfl rfl ?_
  refine zev_ialdX (pc' := 405) ((zd_169 _).trans rfl) zm_169 rfl (zB_0 q1.2.2.2.1) (by decide) ?_
  refine zt_V (pc' := 408) ((zd_169 _).trans rfl) zm_169 rfl zq_8_52 rfl (Nat.le_of_ble_eq_true rfl) (zB_c h9) zqv_8_52_5 (by decide) rfl (zmet_ov q1.1 h2) ?_
  refine zt_icT (tgt := 822) (pc' := 411) ((zd_169 _).trans rfl) zm_169 rfl rfl (zeq rfl) ?_
  refine zt (pc' := 825) ((zd_169 _).trans rfl) zm_169 rfl rfl ?_
  refine zt (pc' := 18) ((zd_169 _).trans rfl) zm_169 rfl rfl ?_
  exact zl_out (zB_0 q2.2.2.2.1) (by decide)
theorem zl_closure {xs : Nat → Int32} (h : zP 76 111 [.int (xs 1), .int (xs 2)]) : ∃ w', zev 41 169 413 [some (.ref 0), some (.ref 1), some (.ref 9), some (.int 0)] [] (zov (zB 5 xs) zx4) (some (.int 1)) w' ∧ w'.2.1 ≤ 600000 ∧ w'.2.2 ≤ 7302250 := by
  obtain ⟨v, w1, w2, h1, h2, q1, q2⟩ := h
  obtain ⟨fs, h9⟩ := q1.2.2.2.2
  refine ⟨zov (zB 5 xs) w2, ?_, q2.2.1, q2.2.2.1⟩
  refine zt (pc' := 414) ((zd_169 _).trans rfl) zm_169 rfl rfl ?_
  refine zt (pc' := 415) ((zd_169 _).trans rfl) zm_169 rfl rfl ?_
  refine zt (pc' := 416) ((zd_169 _).trans rfl) zm_169 rfl rfl ?_
  refine zt (pc' := 417) ((zd_169 _).trans rfl) zm_169 rfl rfl ?_
  refine zt (pc' := 418) ((zd_169 _).trans rfl) zm_169 rfl rfl ?_
  refine zev_ialdX (pc' := 419) ((zd_169 _).trans rfl) zm_169 rfl (zB_0 zx4_Rm.2.2.2.1) (by decide) ?_
  refine zt (pc' := 420) ((zd_169 _).trans rfl) zm_169 rfl rfl ?_
  refine zt (pc' := 421) ((zd_169 _).trans rfl) zm_169 rfl rfl ?_
  refine zt (pc' := 422) ((zd_169 _).trans rfl) zm_169 rfl rfl ?_
  refine zt (pc' := 423) ((zd_169 _).trans rfl) zm_169 rfl rfl ?_
  refine zev_ialdX (pc' := 424) ((zd_169 _).trans rfl) zm_169 rfl (zB_0 zx4_Rm.2.2.2.1) (by decide) ?_
  refine zt_V (pc' := 427) ((zd_169 _).trans rfl) zm_169 rfl zq_8_53 rfl (Nat.le_of_ble_eq_true rfl) (zB_c zx4_1) zqv_8_53_4 (by decide) rfl (zmet_ov zx4_n h1) ?_
  refine zt (pc' := 428) ((zd_169 _).trans rfl) zm_169 rfl rfl ?_
  refine zt (pc' := 429) ((zd_169 _).trans rfl) zm_169 rfl rfl ?_
  refine zt (pc' := 430) ((zd_169 _).trans rfl) zm_169 rfl rfl ?_
  refine zt (pc' := 431) ((zd_169 _).trans rfl) zm_169 rfl rfl ?_
  refine zt (pc' := 432) ((zd_169 _).trans rfl) zm_169 rfl rfl ?_
  refine zev_ialdX (pc' := 433) ((zd_169 _).trans rfl) zm_169 rfl (zB_0 q1.2.2.2.1) (by decide) ?_
  refine zt (pc' := 434) ((zd_169 _).trans rfl) zm_169 rfl rfl ?_
  refine zt (pc' := 435) ((zd_169 _).trans rfl) zm_169 rfl rfl ?_
  refine zt (pc' := 436) ((zd_169 _).trans rfl) zm_169 rfl rfl ?_
  refine zt (pc' := 437) ((zd_169 _).trans rfl) zm_169 rfl rfl ?_
  refine zev_ialdX (pc' := 438) ((zd_169 _).trans rfl) zm_169 rfl (zB_0 q1.2.2.2.1) (by decide) ?_
  refine zt_V (pc' := 441) ((zd_169 _).trans rfl) zm_169 rfl zq_8_56 rfl (Nat.le_of_ble_eq_true rfl) (zB_c h9) zqv_8_56_5 (by decide) rfl (zmet_ov q1.1 h2) ?_
  refine zt_icT (tgt := 822) (pc' := 444) ((zd_169 _).trans rfl) zm_169 rfl rfl (zeq rfl) ?_
  refine zt (pc' := 825) ((zd_169 _).trans rfl) zm_169 rfl rfl ?_
  refine zt (pc' := 18) ((zd_169 _).trans rfl) zm_169 rfl rfl ?_
  exact zl_out (zB_0 q2.2.2.2.1) (by decide)
theorem zl_implied {xs : Nat → Int32} (h : zP 82 124 [.int (xs 1), .int (xs 2), .int (xs 3), .int (xs 4)]) : ∃ w', zev 41 169 446 [some (.ref 0), some (.ref 1), some (.ref 9), some (.int 0)] [] (zov (zB 5 xs) zx4) (some (.int 1)) w' ∧ w'.2.1 ≤ 600000 ∧ w'.2.2 ≤ 7302250 := by
  obtain ⟨v, w1, w2, h1, h2, q1, q2⟩ := h
  obtain ⟨fs, h9⟩ := q1.2.2.2.2
  refine ⟨zov (zB 5 xs) w2, ?_, q2.2.1, q2.2.2.1⟩
  refine zt (pc' := 447) ((zd_169 _).trans rfl) zm_169 rfl rfl ?_
  refine zt (pc' := 448) ((zd_169 _).trans rfl) zm_169 rfl rfl ?_
  refine zt (pc' := 449) ((zd_169 _).trans rfl) zm_169 rfl rfl ?_
  refine zt (pc' := 450) ((zd_169 _).trans rfl) zm_169 rfl rfl ?_
  refine zt (pc' := 451) ((zd_169 _).trans rfl) zm_169 rfl rfl ?_
  refine zev_ialdX (pc' := 452) ((zd_169 _).trans rfl) zm_169 rfl (zB_0 zx4_Rm.2.2.2.1) (by decide) ?_
  refine zt (pc' := 453) ((zd_169 _).trans rfl) zm_169 rfl rfl ?_
  refine zt (pc' := 454) ((zd_169 _).trans rfl) zm_169 rfl rfl ?_
  refine zt (pc' := 455) ((zd_169 _).trans rfl) zm_169 rfl rfl ?_
  refine zt (pc' := 456) ((zd_169 _).trans rfl) zm_169 rfl rfl ?_
  refine zev_ialdX (pc' := 457) ((zd_169 _).trans rfl) zm_169 rfl (zB_0 zx4_Rm.2.2.2.1) (by decide) ?_
  refine zt (pc' := 458) ((zd_169 _).trans rfl) zm_169 rfl rfl ?_
  refine zt (pc' := 459) ((zd_169 _).trans rfl) zm_169 rfl rfl ?_
  refine zt (pc' := 460) ((zd_169 _).trans rfl) zm_169 rfl rfl ?_
  refine zt (pc' := 461) ((zd_169 _).trans rfl) zm_169 rfl rfl ?_
  refine zev_ialdX (pc' := 462) ((zd_169 _).trans rfl) zm_169 rfl (zB_0 zx4_Rm.2.2.2.1) (by decide) ?_
  refine zt (pc' := 463) ((zd_169 _).trans rfl) zm_169 rfl rfl ?_
  refine zt (pc' := 464) ((zd_169 _).trans rfl) zm_169 rfl rfl ?_
  refine zt (pc' := 465) ((zd_169 _).trans rfl) zm_169 rfl rfl ?_
  refine zt (pc' := 466) ((zd_169 _).trans rfl) zm_169 rfl rfl ?_
  refine zev_ialdX (pc' := 467) ((zd_169 _).trans rfl) zm_169 rfl (zB_0 zx4_Rm.2.2.2.1) (by decide) ?_
  refine zt_V (pc' := 470) ((zd_169 _).trans rfl) zm_169 rfl zq_8_57 rfl (Nat.le_of_ble_eq_true rfl) (zB_c zx4_1) zqv_8_57_4 (by decide) rfl (zmet_ov zx4_n h1) ?_
  refine zt (pc' := 471) ((zd_169 _).trans rfl) zm_169 rfl rfl ?_
  refine zt (pc' := 472) ((zd_169 _).trans rfl) zm_169 rfl rfl ?_
  refine zt (pc' := 473) ((zd_169 _).trans rfl) zm_169 rfl rfl ?_
  refine zt (pc' := 474) ((zd_169 _).trans rfl) zm_169 rfl rfl ?_
  refine zt (pc' := 475) ((zd_169 _).trans rfl) zm_169 rfl rfl ?_
  refine zev_ialdX (pc' := 476) ((zd_169 _).trans rfl) zm_169 rfl (zB_0 q1.2.2.2.1) (by decide) ?_
  refine zt (pc' := 477) ((zd_169 _).trans rfl) zm_169 rfl rfl ?_
  refine zt (pc' := 478) ((zd_169 _).trans rfl) zm_169 rfl rfl ?_
  refine zt (pc' := 479) ((zd_169 _).trans rfl) zm_169 rfl rfl ?_
  refine zt (pc' := 480) ((zd_169 _).trans rfl) zm_169 rfl rfl ?_
  refine zev_ialdX (pc' := 481) ((zd_169 _).trans rfl) zm_169 rfl (zB_0 q1.2.2.2.1) (by decide) ?_
  refine zt (pc' := 482) ((zd_169 _).trans rfl) zm_169 rfl rfl ?_
  refine zt (pc' := 483) ((zd_169 _).trans rfl) zm_169 rfl rfl ?_
  refine zt (pc' := 484) ((zd_169 _).trans rfl) zm_169 rfl rfl ?_
  refine zt (pc' := 485) ((zd_169 _).trans rfl) zm_169 rfl rfl ?_
  refine zev_ialdX (pc' := 486) ((zd_169 _).trans rfl) zm_169 rfl (zB_0 q1.2.2.2.1) (by decide) ?_
  refine zt (pc' := 487) ((zd_169 _).trans rfl) zm_169 rfl rfl ?_
  refine zt (pc' := 488) ((zd_169 _).trans rfl) zm_169 rfl rfl ?_
  refine zt (pc' := 489) ((zd_169 _).trans rfl) zm_169 rfl rfl ?_
  refine zt (pc' := 490) ((zd_169 _).trans rfl) zm_169 rfl rfl ?_
  refine zev_ialdX (pc' := 491) ((zd_169 _).trans rfl) zm_169 rfl (zB_0 q1.2.2.2.1) (by decide) ?_
  refine zt_V (pc' := 494) ((zd_169 _).trans rfl) zm_169 rfl zq_8_60 rfl (Nat.le_of_ble_eq_true rfl) (zB_c h9) zqv_8_60_5 (by decide) rfl (zmet_ov q1.1 h2) ?_
  refine zt_icT (tgt := 822) (pc' := 497) ((zd_169 _).trans rfl) zm_169 rfl rfl (zeq rfl) ?_
  refine zt (pc' := 825) ((zd_169 _).trans rfl) zm_169 rfl rfl ?_
  refine zt (pc' := 18) ((zd_169 _).trans rfl) zm_169 rfl rfl ?_
  exact zl_out (zB_0 q2.2.2.2.1) (by decide)
theorem zl_rigid {xs : Nat → Int32} (h : zP 94 158 [.int (xs 1)]) : ∃ w', zev 41 169 499 [some (.ref 0), some (.ref 1), some (.ref 9), some (.int 0)] [] (zov (zB 5 xs) zx4) (some (.int 1)) w' ∧ w'.2.1 ≤ 600000 ∧ w'.2.2 ≤ 7302250 := by
  obtain ⟨v, w1, w2, h1, h2, q1, q2⟩ := h
  obtain ⟨fs, h9⟩ := q1.2.2.2.2
  refine ⟨zov (zB 5 xs) w2, ?_, q2.2.1, q2.2.2.1⟩
  refine zt (pc' := 500) ((zd_169 _).trans rfl) zm_169 rfl rfl ?_
  refine zt (pc' := 501) ((zd_169 _).trans rfl) zm_169 rfl rfl ?_
  refine zt (pc' := 502) ((zd_169 _).trans rfl) zm_169 rfl rfl ?_
  refine zt (pc' := 503) ((zd_169 _).trans rfl) zm_169 rfl rfl ?_
  refine zt (pc' := 504) ((zd_169 _).trans rfl) zm_169 rfl rfl ?_
  refine zev_ialdX (pc' := 505) ((zd_169 _).trans rfl) zm_169 rfl (zB_0 zx4_Rm.2.2.2.1) (by decide) ?_
  refine zt_V (pc' := 508) ((zd_169 _).trans rfl) zm_169 rfl zq_8_61 rfl (Nat.le_of_ble_eq_true rfl) (zB_c zx4_1) zqv_8_61_4 (by decide) rfl (zmet_ov zx4_n h1) ?_
  refine zt (pc' := 509) ((zd_169 _).trans rfl) zm_169 rfl rfl ?_
  refine zt (pc' := 510) ((zd_169 _).trans rfl) zm_169 rfl rfl ?_
  refine zt (pc' := 511) ((zd_169 _).trans rfl) zm_169 rfl rfl ?_
  refine zt (pc' := 512) ((zd_169 _).trans rfl) zm_169 rfl rfl ?_
  refine zt (pc' := 513) ((zd_169 _).trans rfl) zm_169 rfl rfl ?_
  refine zev_ialdX (pc' := 514) ((zd_169 _).trans rfl) zm_169 rfl (zB_0 q1.2.2.2.1) (by decide) ?_
  refine zt_V (pc' := 517) ((zd_169 _).trans rfl) zm_169 rfl zq_8_64 rfl (Nat.le_of_ble_eq_true rfl) (zB_c h9) zqv_8_64_5 (by decide) rfl (zmet_ov q1.1 h2) ?_
  refine zt_icT (tgt := 822) (pc' := 520) ((zd_169 _).trans rfl) zm_169 rfl rfl (zeq rfl) ?_
  refine zt (pc' := 825) ((zd_169 _).trans rfl) zm_169 rfl rfl ?_
  refine zt (pc' := 18) ((zd_169 _).trans rfl) zm_169 rfl rfl ?_
  exact zl_out (zB_0 q2.2.2.2.1) (by decide)
theorem zl_lacks {xs : Nat → Int32} (h : zP 87 142 [.int (xs 1)]) : ∃ w', zev 41 169 522 [some (.ref 0), some (.ref 1), some (.ref 9), some (.int 0)] [] (zov (zB 5 xs) zx4) (some (.int 1)) w' ∧ w'.2.1 ≤ 600000 ∧ w'.2.2 ≤ 7302250 := by
  obtain ⟨v, w1, w2, h1, h2, q1, q2⟩ := h
  obtain ⟨fs, h9⟩ := q1.2.2.2.2
  refine ⟨zov (zB 5 xs) w2, ?_, q2.2.1, q2.2.2.1⟩
  refine zt (pc' := 523) ((zd_169 _).trans rfl) zm_169 rfl rfl ?_
  refine zt (pc' := 524) ((zd_169 _).trans rfl) zm_169 rfl rfl ?_
  refine zt (pc' := 525) ((zd_169 _).trans rfl) zm_169 rfl rfl ?_
  refine zt (pc' := 526) ((zd_169 _).trans rfl) zm_169 rfl rfl ?_
  refine zt (pc' := 527) ((zd_169 _).trans rfl) zm_169 rfl rfl ?_
  refine zev_ialdX (pc' := 528) ((zd_169 _).trans rfl) zm_169 rfl (zB_0 zx4_Rm.2.2.2.1) (by decide) ?_
  refine zt_V (pc' := 531) ((zd_169 _).trans rfl) zm_169 rfl zq_8_65 rfl (Nat.le_of_ble_eq_true rfl) (zB_c zx4_1) zqv_8_65_4 (by decide) rfl (zmet_ov zx4_n h1) ?_
  refine zt (pc' := 532) ((zd_169 _).trans rfl) zm_169 rfl rfl ?_
  refine zt (pc' := 533) ((zd_169 _).trans rfl) zm_169 rfl rfl ?_
  refine zt (pc' := 534) ((zd_169 _).trans rfl) zm_169 rfl rfl ?_
  refine zt (pc' := 535) ((zd_169 _).trans rfl) zm_169 rfl rfl ?_
  refine zt (pc' := 536) ((zd_169 _).trans rfl) zm_169 rfl rfl ?_
  refine zev_ialdX (pc' := 537) ((zd_169 _).trans rfl) zm_169 rfl (zB_0 q1.2.2.2.1) (by decide) ?_
  refine zt_V (pc' := 540) ((zd_169 _).trans rfl) zm_169 rfl zq_8_68 rfl (Nat.le_of_ble_eq_true rfl) (zB_c h9) zqv_8_68_5 (by decide) rfl (zmet_ov q1.1 h2) ?_
  refine zt_icT (tgt := 822) (pc' := 543) ((zd_169 _).trans rfl) zm_169 rfl rfl (zeq rfl) ?_
  refine zt (pc' := 825) ((zd_169 _).trans rfl) zm_169 rfl rfl ?_
  refine zt (pc' := 18) ((zd_169 _).trans rfl) zm_169 rfl rfl ?_
  exact zl_out (zB_0 q2.2.2.2.1) (by decide)
theorem zl_spare {xs : Nat → Int32} (h : zP 96 160 [.int (xs 1)]) : ∃ w', zev 41 169 545 [some (.ref 0), some (.ref 1), some (.ref 9), some (.int 0)] [] (zov (zB 5 xs) zx4) (some (.int 1)) w' ∧ w'.2.1 ≤ 600000 ∧ w'.2.2 ≤ 7302250 := by
  obtain ⟨v, w1, w2, h1, h2, q1, q2⟩ := h
  obtain ⟨fs, h9⟩ := q1.2.2.2.2
  refine ⟨zov (zB 5 xs) w2, ?_, q2.2.1, q2.2.2.1⟩
  refine zt (pc' := 546) ((zd_169 _).trans rfl) zm_169 rfl rfl ?_
  refine zt (pc' := 547) ((zd_169 _).trans rfl) zm_169 rfl rfl ?_
  refine zt (pc' := 548) ((zd_169 _).trans rfl) zm_169 rfl rfl ?_
  refine zt (pc' := 549) ((zd_169 _).trans rfl) zm_169 rfl rfl ?_
  refine zt (pc' := 550) ((zd_169 _).trans rfl) zm_169 rfl rfl ?_
  refine zev_ialdX (pc' := 551) ((zd_169 _).trans rfl) zm_169 rfl (zB_0 zx4_Rm.2.2.2.1) (by decide) ?_
  refine zt_V (pc' := 554) ((zd_169 _).trans rfl) zm_169 rfl zq_8_69 rfl (Nat.le_of_ble_eq_true rfl) (zB_c zx4_1) zqv_8_69_4 (by decide) rfl (zmet_ov zx4_n h1) ?_
  refine zt (pc' := 555) ((zd_169 _).trans rfl) zm_169 rfl rfl ?_
  refine zt (pc' := 556) ((zd_169 _).trans rfl) zm_169 rfl rfl ?_
  refine zt (pc' := 557) ((zd_169 _).trans rfl) zm_169 rfl rfl ?_
  refine zt (pc' := 558) ((zd_169 _).trans rfl) zm_169 rfl rfl ?_
  refine zt (pc' := 559) ((zd_169 _).trans rfl) zm_169 rfl rfl ?_
  refine zev_ialdX (pc' := 560) ((zd_169 _).trans rfl) zm_169 rfl (zB_0 q1.2.2.2.1) (by decide) ?_
  refine zt_V (pc' := 563) ((zd_169 _).trans rfl) zm_169 rfl zq_8_72 rfl (Nat.le_of_ble_eq_true rfl) (zB_c h9) zqv_8_72_5 (by decide) rfl (zmet_ov q1.1 h2) ?_
  refine zt_icT (tgt := 822) (pc' := 566) ((zd_169 _).trans rfl) zm_169 rfl rfl (zeq rfl) ?_
  refine zt (pc' := 825) ((zd_169 _).trans rfl) zm_169 rfl rfl ?_
  refine zt (pc' := 18) ((zd_169 _).trans rfl) zm_169 rfl rfl ?_
  exact zl_out (zB_0 q2.2.2.2.1) (by decide)
theorem zl_many {xs : Nat → Int32} (h : zP 90 144 [.int (xs 1), .int (xs 2)]) : ∃ w', zev 41 169 568 [some (.ref 0), some (.ref 1), some (.ref 9), some (.int 0)] [] (zov (zB 5 xs) zx4) (some (.int 1)) w' ∧ w'.2.1 ≤ 600000 ∧ w'.2.2 ≤ 7302250 := by
  obtain ⟨v, w1, w2, h1, h2, q1, q2⟩ := h
  obtain ⟨fs, h9⟩ := q1.2.2.2.2
  refine ⟨zov (zB 5 xs) w2, ?_, q2.2.1, q2.2.2.1⟩
  refine zt (pc' := 569) ((zd_169 _).trans rfl) zm_169 rfl rfl ?_
  refine zt (pc' := 570) ((zd_169 _).trans rfl) zm_169 rfl rfl ?_
  refine zt (pc' := 571) ((zd_169 _).trans rfl) zm_169 rfl rfl ?_
  refine zt (pc' := 572) ((zd_169 _).trans rfl) zm_169 rfl rfl ?_
  refine zt (pc' := 573) ((zd_169 _).trans rfl) zm_169 rfl rfl ?_
  refine zev_ialdX (pc' := 574) ((zd_169 _).trans rfl) zm_169 rfl (zB_0 zx4_Rm.2.2.2.1) (by decide) ?_
  refine zt (pc' := 575) ((zd_169 _).trans rfl) zm_169 rfl rfl ?_
  refine zt (pc' := 576) ((zd_169 _).trans rfl) zm_169 rfl rfl ?_
  refine zt (pc' := 577) ((zd_169 _).trans rfl) zm_169 rfl rfl ?_
  refine zt (pc' := 578) ((zd_169 _).trans rfl) zm_169 rfl rfl ?_
  refine zev_ialdX (pc' := 579) ((zd_169 _).trans rfl) zm_169 rfl (zB_0 zx4_Rm.2.2.2.1) (by decide) ?_
  refine zt_V (pc' := 582) ((zd_169 _).trans rfl) zm_169 rfl zq_8_73 rfl (Nat.le_of_ble_eq_true rfl) (zB_c zx4_1) zqv_8_73_4 (by decide) rfl (zmet_ov zx4_n h1) ?_
  refine zt (pc' := 583) ((zd_169 _).trans rfl) zm_169 rfl rfl ?_
  refine zt (pc' := 584) ((zd_169 _).trans rfl) zm_169 rfl rfl ?_
  refine zt (pc' := 585) ((zd_169 _).trans rfl) zm_169 rfl rfl ?_
  refine zt (pc' := 586) ((zd_169 _).trans rfl) zm_169 rfl rfl ?_
  refine zt (pc' := 587) ((zd_169 _).trans rfl) zm_169 rfl rfl ?_
  refine zev_ialdX (pc' := 588) ((zd_169 _).trans rfl) zm_169 rfl (zB_0 q1.2.2.2.1) (by decide) ?_
  refine zt (pc' := 589) ((zd_169 _).trans rfl) zm_169 rfl rfl ?_
  refine zt (pc' := 590) ((zd_169 _).trans rfl) zm_169 rfl rfl ?_
  refine zt (pc' := 591) ((zd_169 _).trans rfl) zm_169 rfl rfl ?_
  refine zt (pc' := 592) ((zd_169 _).trans rfl) zm_169 rfl rfl ?_
  refine zev_ialdX (pc' := 593) ((zd_169 _).trans rfl) zm_169 rfl (zB_0 q1.2.2.2.1) (by decide) ?_
  refine zt_V (pc' := 596) ((zd_169 _).trans rfl) zm_169 rfl zq_8_76 rfl (Nat.le_of_ble_eq_true rfl) (zB_c h9) zqv_8_76_5 (by decide) rfl (zmet_ov q1.1 h2) ?_
  refine zt_icT (tgt := 822) (pc' := 599) ((zd_169 _).trans rfl) zm_169 rfl rfl (zeq rfl) ?_
  refine zt (pc' := 825) ((zd_169 _).trans rfl) zm_169 rfl rfl ?_
  refine zt (pc' := 18) ((zd_169 _).trans rfl) zm_169 rfl rfl ?_
  exact zl_out (zB_0 q2.2.2.2.1) (by decide)
theorem zl_told {xs : Nat → Int32} (h : zP 99 166 [.int (xs 1), .int (xs 2), .int (xs 3)]) : ∃ w', zev 41 169 601 [some (.ref 0), some (.ref 1), some (.ref 9), some (.int 0)] [] (zov (zB 5 xs) zx4) (some (.int 1)) w' ∧ w'.2.1 ≤ 600000 ∧ w'.2.2 ≤ 7302250 := by
  obtain ⟨v, w1, w2, h1, h2, q1, q2⟩ := h
  obtain ⟨fs, h9⟩ := q1.2.2.2.2
  refine ⟨zov (zB 5 xs) w2, ?_, q2.2.1, q2.2.2.1⟩
  refine zt (pc' := 602) ((zd_169 _).trans rfl) zm_169 rfl rfl ?_
  refine zt (pc' := 603) ((zd_169 _).trans rfl) zm_169 rfl rfl ?_
  refine zt (pc' := 604) ((zd_169 _).trans rfl) zm_169 rfl rfl ?_
  refine zt (pc' := 605) ((zd_169 _).trans rfl) zm_169 rfl rfl ?_
  refine zt (pc' := 606) ((zd_169 _).trans rfl) zm_169 rfl rfl ?_
  refine zev_ialdX (pc' := 607) ((zd_169 _).trans rfl) zm_169 rfl (zB_0 zx4_Rm.2.2.2.1) (by decide) ?_
  refine zt (pc' := 608) ((zd_169 _).trans rfl) zm_169 rfl rfl ?_
  refine zt (pc' := 609) ((zd_169 _).trans rfl) zm_169 rfl rfl ?_
  refine zt (pc' := 610) ((zd_169 _).trans rfl) zm_169 rfl rfl ?_
  refine zt (pc' := 611) ((zd_169 _).trans rfl) zm_169 rfl rfl ?_
  refine zev_ialdX (pc' := 612) ((zd_169 _).trans rfl) zm_169 rfl (zB_0 zx4_Rm.2.2.2.1) (by decide) ?_
  refine zt (pc' := 613) ((zd_169 _).trans rfl) zm_169 rfl rfl ?_
  refine zt (pc' := 614) ((zd_169 _).trans rfl) zm_169 rfl rfl ?_
  refine zt (pc' := 615) ((zd_169 _).trans rfl) zm_169 rfl rfl ?_
  refine zt (pc' := 616) ((zd_169 _).trans rfl) zm_169 rfl rfl ?_
  refine zev_ialdX (pc' := 617) ((zd_169 _).trans rfl) zm_169 rfl (zB_0 zx4_Rm.2.2.2.1) (by decide) ?_
  refine zt_V (pc' := 620) ((zd_169 _).trans rfl) zm_169 rfl zq_8_77 rfl (Nat.le_of_ble_eq_true rfl) (zB_c zx4_1) zqv_8_77_4 (by decide) rfl (zmet_ov zx4_n h1) ?_
  refine zt (pc' := 621) ((zd_169 _).trans rfl) zm_169 rfl rfl ?_
  refine zt (pc' := 622) ((zd_169 _).trans rfl) zm_169 rfl rfl ?_
  refine zt (pc' := 623) ((zd_169 _).trans rfl) zm_169 rfl rfl ?_
  refine zt (pc' := 624) ((zd_169 _).trans rfl) zm_169 rfl rfl ?_
  refine zt (pc' := 625) ((zd_169 _).trans rfl) zm_169 rfl rfl ?_
  refine zev_ialdX (pc' := 626) ((zd_169 _).trans rfl) zm_169 rfl (zB_0 q1.2.2.2.1) (by decide) ?_
  refine zt (pc' := 627) ((zd_169 _).trans rfl) zm_169 rfl rfl ?_
  refine zt (pc' := 628) ((zd_169 _).trans rfl) zm_169 rfl rfl ?_
  refine zt (pc' := 629) ((zd_169 _).trans rfl) zm_169 rfl rfl ?_
  refine zt (pc' := 630) ((zd_169 _).trans rfl) zm_169 rfl rfl ?_
  refine zev_ialdX (pc' := 631) ((zd_169 _).trans rfl) zm_169 rfl (zB_0 q1.2.2.2.1) (by decide) ?_
  refine zt (pc' := 632) ((zd_169 _).trans rfl) zm_169 rfl rfl ?_
  refine zt (pc' := 633) ((zd_169 _).trans rfl) zm_169 rfl rfl ?_
  refine zt (pc' := 634) ((zd_169 _).trans rfl) zm_169 rfl rfl ?_
  refine zt (pc' := 635) ((zd_169 _).trans rfl) zm_169 rfl rfl ?_
  refine zev_ialdX (pc' := 636) ((zd_169 _).trans rfl) zm_169 rfl (zB_0 q1.2.2.2.1) (by decide) ?_
  refine zt_V (pc' := 639) ((zd_169 _).trans rfl) zm_169 rfl zq_8_81 rfl (Nat.le_of_ble_eq_true rfl) (zB_c h9) zqv_8_81_5 (by decide) rfl (zmet_ov q1.1 h2) ?_
  refine zt_icT (tgt := 822) (pc' := 642) ((zd_169 _).trans rfl) zm_169 rfl rfl (zeq rfl) ?_
  refine zt (pc' := 825) ((zd_169 _).trans rfl) zm_169 rfl rfl ?_
  refine zt (pc' := 18) ((zd_169 _).trans rfl) zm_169 rfl rfl ?_
  exact zl_out (zB_0 q2.2.2.2.1) (by decide)
theorem zl_coefficient {xs : Nat → Int32} (h : zP 78 114 [.int (xs 1), .int (xs 2), .int (xs 3)]) : ∃ w', zev 41 169 644 [some (.ref 0), some (.ref 1), some (.ref 9), some (.int 0)] [] (zov (zB 5 xs) zx4) (some (.int 1)) w' ∧ w'.2.1 ≤ 600000 ∧ w'.2.2 ≤ 7302250 := by
  obtain ⟨v, w1, w2, h1, h2, q1, q2⟩ := h
  obtain ⟨fs, h9⟩ := q1.2.2.2.2
  refine ⟨zov (zB 5 xs) w2, ?_, q2.2.1, q2.2.2.1⟩
  refine zt (pc' := 645) ((zd_169 _).trans rfl) zm_169 rfl rfl ?_
  refine zt (pc' := 646) ((zd_169 _).trans rfl) zm_169 rfl rfl ?_
  refine zt (pc' := 647) ((zd_169 _).trans rfl) zm_169 rfl rfl ?_
  refine zt (pc' := 648) ((zd_169 _).trans rfl) zm_169 rfl rfl ?_
  refine zt (pc' := 649) ((zd_169 _).trans rfl) zm_169 rfl rfl ?_
  refine zev_ialdX (pc' := 650) ((zd_169 _).trans rfl) zm_169 rfl (zB_0 zx4_Rm.2.2.2.1) (by decide) ?_
  refine zt (pc' := 651) ((zd_169 _).trans rfl) zm_169 rfl rfl ?_
  refine zt (pc' := 652) ((zd_169 _).trans rfl) zm_169 rfl rfl ?_
  refine zt (pc' := 653) ((zd_169 _).trans rfl) zm_169 rfl rfl ?_
  refine zt (pc' := 654) ((zd_169 _).trans rfl) zm_169 rfl rfl ?_
  refine zev_ialdX (pc' := 655) ((zd_169 _).trans rfl) zm_169 rfl (zB_0 zx4_Rm.2.2.2.1) (by decide) ?_
  refine zt (pc' := 656) ((zd_169 _).trans rfl) zm_169 rfl rfl ?_
  refine zt (pc' := 657) ((zd_169 _).trans rfl) zm_169 rfl rfl ?_
  refine zt (pc' := 658) ((zd_169 _).trans rfl) zm_169 rfl rfl ?_
  refine zt (pc' := 659) ((zd_169 _).trans rfl) zm_169 rfl rfl ?_
  refine zev_ialdX (pc' := 660) ((zd_169 _).trans rfl) zm_169 rfl (zB_0 zx4_Rm.2.2.2.1) (by decide) ?_
  refine zt_V (pc' := 663) ((zd_169 _).trans rfl) zm_169 rfl zq_8_82 rfl (Nat.le_of_ble_eq_true rfl) (zB_c zx4_1) zqv_8_82_4 (by decide) rfl (zmet_ov zx4_n h1) ?_
  refine zt (pc' := 664) ((zd_169 _).trans rfl) zm_169 rfl rfl ?_
  refine zt (pc' := 665) ((zd_169 _).trans rfl) zm_169 rfl rfl ?_
  refine zt (pc' := 666) ((zd_169 _).trans rfl) zm_169 rfl rfl ?_
  refine zt (pc' := 667) ((zd_169 _).trans rfl) zm_169 rfl rfl ?_
  refine zt (pc' := 668) ((zd_169 _).trans rfl) zm_169 rfl rfl ?_
  refine zev_ialdX (pc' := 669) ((zd_169 _).trans rfl) zm_169 rfl (zB_0 q1.2.2.2.1) (by decide) ?_
  refine zt (pc' := 670) ((zd_169 _).trans rfl) zm_169 rfl rfl ?_
  refine zt (pc' := 671) ((zd_169 _).trans rfl) zm_169 rfl rfl ?_
  refine zt (pc' := 672) ((zd_169 _).trans rfl) zm_169 rfl rfl ?_
  refine zt (pc' := 673) ((zd_169 _).trans rfl) zm_169 rfl rfl ?_
  refine zev_ialdX (pc' := 674) ((zd_169 _).trans rfl) zm_169 rfl (zB_0 q1.2.2.2.1) (by decide) ?_
  refine zt (pc' := 675) ((zd_169 _).trans rfl) zm_169 rfl rfl ?_
  refine zt (pc' := 676) ((zd_169 _).trans rfl) zm_169 rfl rfl ?_
  refine zt (pc' := 677) ((zd_169 _).trans rfl) zm_169 rfl rfl ?_
  refine zt (pc' := 678) ((zd_169 _).trans rfl) zm_169 rfl rfl ?_
  refine zev_ialdX (pc' := 679) ((zd_169 _).trans rfl) zm_169 rfl (zB_0 q1.2.2.2.1) (by decide) ?_
  refine zt_V (pc' := 682) ((zd_169 _).trans rfl) zm_169 rfl zq_8_85 rfl (Nat.le_of_ble_eq_true rfl) (zB_c h9) zqv_8_85_5 (by decide) rfl (zmet_ov q1.1 h2) ?_
  refine zt_icT (tgt := 822) (pc' := 685) ((zd_169 _).trans rfl) zm_169 rfl rfl (zeq rfl) ?_
  refine zt (pc' := 825) ((zd_169 _).trans rfl) zm_169 rfl rfl ?_
  refine zt (pc' := 18) ((zd_169 _).trans rfl) zm_169 rfl rfl ?_
  exact zl_out (zB_0 q2.2.2.2.1) (by decide)
theorem zl_cluster {xs : Nat → Int32} (h : zP 77 113 [.int (xs 1), .int (xs 2)]) : ∃ w', zev 41 169 687 [some (.ref 0), some (.ref 1), some (.ref 9), some (.int 0)] [] (zov (zB 5 xs) zx4) (some (.int 1)) w' ∧ w'.2.1 ≤ 600000 ∧ w'.2.2 ≤ 7302250 := by
  obtain ⟨v, w1, w2, h1, h2, q1, q2⟩ := h
  obtain ⟨fs, h9⟩ := q1.2.2.2.2
  refine ⟨zov (zB 5 xs) w2, ?_, q2.2.1, q2.2.2.1⟩
  refine zt (pc' := 688) ((zd_169 _).trans rfl) zm_169 rfl rfl ?_
  refine zt (pc' := 689) ((zd_169 _).trans rfl) zm_169 rfl rfl ?_
  refine zt (pc' := 690) ((zd_169 _).trans rfl) zm_169 rfl rfl ?_
  refine zt (pc' := 691) ((zd_169 _).trans rfl) zm_169 rfl rfl ?_
  refine zt (pc' := 692) ((zd_169 _).trans rfl) zm_169 rfl rfl ?_
  refine zev_ialdX (pc' := 693) ((zd_169 _).trans rfl) zm_169 rfl (zB_0 zx4_Rm.2.2.2.1) (by decide) ?_
  refine zt (pc' := 694) ((zd_169 _).trans rfl) zm_169 rfl rfl ?_
  refine zt (pc' := 695) ((zd_169 _).trans rfl) zm_169 rfl rfl ?_
  refine zt (pc' := 696) ((zd_169 _).trans rfl) zm_169 rfl rfl ?_
  refine zt (pc' := 697) ((zd_169 _).trans rfl) zm_169 rfl rfl ?_
  refine zev_ialdX (pc' := 698) ((zd_169 _).trans rfl) zm_169 rfl (zB_0 zx4_Rm.2.2.2.1) (by decide) ?_
  refine zt_V (pc' := 701) ((zd_169 _).trans rfl) zm_169 rfl zq_8_86 rfl (Nat.le_of_ble_eq_true rfl) (zB_c zx4_1) zqv_8_86_4 (by decide) rfl (zmet_ov zx4_n h1) ?_
  refine zt (pc' := 702) ((zd_169 _).trans rfl) zm_169 rfl rfl ?_
  refine zt (pc' := 703) ((zd_169 _).trans rfl) zm_169 rfl rfl ?_
  refine zt (pc' := 704) ((zd_169 _).trans rfl) zm_169 rfl rfl ?_
  refine zt (pc' := 705) ((zd_169 _).trans rfl) zm_169 rfl rfl ?_
  refine zt (pc' := 706) ((zd_169 _).trans rfl) zm_169 rfl rfl ?_
  refine zev_ialdX (pc' := 707) ((zd_169 _).trans rfl) zm_169 rfl (zB_0 q1.2.2.2.1) (by decide) ?_
  refine zt (pc' := 708) ((zd_169 _).trans rfl) zm_169 rfl rfl ?_
  refine zt (pc' := 709) ((zd_169 _).trans rfl) zm_169 rfl rfl ?_
  refine zt (pc' := 710) ((zd_169 _).trans rfl) zm_169 rfl rfl ?_
  refine zt (pc' := 711) ((zd_169 _).trans rfl) zm_169 rfl rfl ?_
  refine zev_ialdX (pc' := 712) ((zd_169 _).trans rfl) zm_169 rfl (zB_0 q1.2.2.2.1) (by decide) ?_
  refine zt_V (pc' := 715) ((zd_169 _).trans rfl) zm_169 rfl zq_8_89 rfl (Nat.le_of_ble_eq_true rfl) (zB_c h9) zqv_8_89_5 (by decide) rfl (zmet_ov q1.1 h2) ?_
  refine zt_icT (tgt := 822) (pc' := 718) ((zd_169 _).trans rfl) zm_169 rfl rfl (zeq rfl) ?_
  refine zt (pc' := 825) ((zd_169 _).trans rfl) zm_169 rfl rfl ?_
  refine zt (pc' := 18) ((zd_169 _).trans rfl) zm_169 rfl rfl ?_
  exact zl_out (zB_0 q2.2.2.2.1) (by decide)
theorem zl_stressed {xs : Nat → Int32} (h : zP 98 162 [.int (xs 1), .int (xs 2), .int (xs 3)]) : ∃ w', zev 41 169 720 [some (.ref 0), some (.ref 1), some (.ref 9), some (.int 0)] [] (zov (zB 5 xs) zx4) (some (.int 1)) w' ∧ w'.2.1 ≤ 600000 ∧ w'.2.2 ≤ 7302250 := by
  obtain ⟨v, w1, w2, h1, h2, q1, q2⟩ := h
  obtain ⟨fs, h9⟩ := q1.2.2.2.2
  refine ⟨zov (zB 5 xs) w2, ?_, q2.2.1, q2.2.2.1⟩
  refine zt (pc' := 721) ((zd_169 _).trans rfl) zm_169 rfl rfl ?_
  refine zt (pc' := 722) ((zd_169 _).trans rfl) zm_169 rfl rfl ?_
  refine zt (pc' := 723) ((zd_169 _).trans rfl) zm_169 rfl rfl ?_
  refine zt (pc' := 724) ((zd_169 _).trans rfl) zm_169 rfl rfl ?_
  refine zt (pc' := 725) ((zd_169 _).trans rfl) zm_169 rfl rfl ?_
  refine zev_ialdX (pc' := 726) ((zd_169 _).trans rfl) zm_169 rfl (zB_0 zx4_Rm.2.2.2.1) (by decide) ?_
  refine zt (pc' := 727) ((zd_169 _).trans rfl) zm_169 rfl rfl ?_
  refine zt (pc' := 728) ((zd_169 _).trans rfl) zm_169 rfl rfl ?_
  refine zt (pc' := 729) ((zd_169 _).trans rfl) zm_169 rfl rfl ?_
  refine zt (pc' := 730) ((zd_169 _).trans rfl) zm_169 rfl rfl ?_
  refine zev_ialdX (pc' := 731) ((zd_169 _).trans rfl) zm_169 rfl (zB_0 zx4_Rm.2.2.2.1) (by decide) ?_
  refine zt (pc' := 732) ((zd_169 _).trans rfl) zm_169 rfl rfl ?_
  refine zt (pc' := 733) ((zd_169 _).trans rfl) zm_169 rfl rfl ?_
  refine zt (pc' := 734) ((zd_169 _).trans rfl) zm_169 rfl rfl ?_
  refine zt (pc' := 735) ((zd_169 _).trans rfl) zm_169 rfl rfl ?_
  refine zev_ialdX (pc' := 736) ((zd_169 _).trans rfl) zm_169 rfl (zB_0 zx4_Rm.2.2.2.1) (by decide) ?_
  refine zt_V (pc' := 739) ((zd_169 _).trans rfl) zm_169 rfl zq_8_90 rfl (Nat.le_of_ble_eq_true rfl) (zB_c zx4_1) zqv_8_90_4 (by decide) rfl (zmet_ov zx4_n h1) ?_
  refine zt (pc' := 740) ((zd_169 _).trans rfl) zm_169 rfl rfl ?_
  refine zt (pc' := 741) ((zd_169 _).trans rfl) zm_169 rfl rfl ?_
  refine zt (pc' := 742) ((zd_169 _).trans rfl) zm_169 rfl rfl ?_
  refine zt (pc' := 743) ((zd_169 _).trans rfl) zm_169 rfl rfl ?_
  refine zt (pc' := 744) ((zd_169 _).trans rfl) zm_169 rfl rfl ?_
  refine zev_ialdX (pc' := 745) ((zd_169 _).trans rfl) zm_169 rfl (zB_0 q1.2.2.2.1) (by decide) ?_
  refine zt (pc' := 746) ((zd_169 _).trans rfl) zm_169 rfl rfl ?_
  refine zt (pc' := 747) ((zd_169 _).trans rfl) zm_169 rfl rfl ?_
  refine zt (pc' := 748) ((zd_169 _).trans rfl) zm_169 rfl rfl ?_
  refine zt (pc' := 749) ((zd_169 _).trans rfl) zm_169 rfl rfl ?_
  refine zev_ialdX (pc' := 750) ((zd_169 _).trans rfl) zm_169 rfl (zB_0 q1.2.2.2.1) (by decide) ?_
  refine zt (pc' := 751) ((zd_169 _).trans rfl) zm_169 rfl rfl ?_
  refine zt (pc' := 752) ((zd_169 _).trans rfl) zm_169 rfl rfl ?_
  refine zt (pc' := 753) ((zd_169 _).trans rfl) zm_169 rfl rfl ?_
  refine zt (pc' := 754) ((zd_169 _).trans rfl) zm_169 rfl rfl ?_
  refine zev_ialdX (pc' := 755) ((zd_169 _).trans rfl) zm_169 rfl (zB_0 q1.2.2.2.1) (by decide) ?_
  refine zt_V (pc' := 758) ((zd_169 _).trans rfl) zm_169 rfl zq_8_93 rfl (Nat.le_of_ble_eq_true rfl) (zB_c h9) zqv_8_93_5 (by decide) rfl (zmet_ov q1.1 h2) ?_
  refine zt_icT (tgt := 822) (pc' := 761) ((zd_169 _).trans rfl) zm_169 rfl rfl (zeq rfl) ?_
  refine zt (pc' := 825) ((zd_169 _).trans rfl) zm_169 rfl rfl ?_
  refine zt (pc' := 18) ((zd_169 _).trans rfl) zm_169 rfl rfl ?_
  exact zl_out (zB_0 q2.2.2.2.1) (by decide)
theorem zl_holds {xs : Nat → Int32} (h : zP 81 123 [.int (xs 1)]) : ∃ w', zev 41 169 763 [some (.ref 0), some (.ref 1), some (.ref 9), some (.int 0)] [] (zov (zB 5 xs) zx4) (some (.int 1)) w' ∧ w'.2.1 ≤ 600000 ∧ w'.2.2 ≤ 7302250 := by
  obtain ⟨v, w1, w2, h1, h2, q1, q2⟩ := h
  obtain ⟨fs, h9⟩ := q1.2.2.2.2
  refine ⟨zov (zB 5 xs) w2, ?_, q2.2.1, q2.2.2.1⟩
  refine zt (pc' := 764) ((zd_169 _).trans rfl) zm_169 rfl rfl ?_
  refine zt (pc' := 765) ((zd_169 _).trans rfl) zm_169 rfl rfl ?_
  refine zt (pc' := 766) ((zd_169 _).trans rfl) zm_169 rfl rfl ?_
  refine zt (pc' := 767) ((zd_169 _).trans rfl) zm_169 rfl rfl ?_
  refine zt (pc' := 768) ((zd_169 _).trans rfl) zm_169 rfl rfl ?_
  refine zev_ialdX (pc' := 769) ((zd_169 _).trans rfl) zm_169 rfl (zB_0 zx4_Rm.2.2.2.1) (by decide) ?_
  refine zt_V (pc' := 772) ((zd_169 _).trans rfl) zm_169 rfl zq_8_94 rfl (Nat.le_of_ble_eq_true rfl) (zB_c zx4_1) zqv_8_94_4 (by decide) rfl (zmet_ov zx4_n h1) ?_
  refine zt (pc' := 773) ((zd_169 _).trans rfl) zm_169 rfl rfl ?_
  refine zt (pc' := 774) ((zd_169 _).trans rfl) zm_169 rfl rfl ?_
  refine zt (pc' := 775) ((zd_169 _).trans rfl) zm_169 rfl rfl ?_
  refine zt (pc' := 776) ((zd_169 _).trans rfl) zm_169 rfl rfl ?_
  refine zt (pc' := 777) ((zd_169 _).trans rfl) zm_169 rfl rfl ?_
  refine zev_ialdX (pc' := 778) ((zd_169 _).trans rfl) zm_169 rfl (zB_0 q1.2.2.2.1) (by decide) ?_
  refine zt_V (pc' := 781) ((zd_169 _).trans rfl) zm_169 rfl zq_8_97 rfl (Nat.le_of_ble_eq_true rfl) (zB_c h9) zqv_8_97_5 (by decide) rfl (zmet_ov q1.1 h2) ?_
  refine zt_icT (tgt := 822) (pc' := 784) ((zd_169 _).trans rfl) zm_169 rfl rfl (zeq rfl) ?_
  refine zt (pc' := 825) ((zd_169 _).trans rfl) zm_169 rfl rfl ?_
  refine zt (pc' := 18) ((zd_169 _).trans rfl) zm_169 rfl rfl ?_
  exact zl_out (zB_0 q2.2.2.2.1) (by decide)
theorem zl_built {xs : Nat → Int32} (h : zP 75 107 [.int (xs 1)]) : ∃ w', zev 41 169 786 [some (.ref 0), some (.ref 1), some (.ref 9), some (.int 0)] [] (zov (zB 5 xs) zx4) (some (.int 1)) w' ∧ w'.2.1 ≤ 600000 ∧ w'.2.2 ≤ 7302250 := by
  obtain ⟨v, w1, w2, h1, h2, q1, q2⟩ := h
  obtain ⟨fs, h9⟩ := q1.2.2.2.2
  refine ⟨zov (zB 5 xs) w2, ?_, q2.2.1, q2.2.2.1⟩
  refine zt (pc' := 787) ((zd_169 _).trans rfl) zm_169 rfl rfl ?_
  refine zt (pc' := 788) ((zd_169 _).trans rfl) zm_169 rfl rfl ?_
  refine zt (pc' := 789) ((zd_169 _).trans rfl) zm_169 rfl rfl ?_
  refine zt (pc' := 790) ((zd_169 _).trans rfl) zm_169 rfl rfl ?_
  refine zt (pc' := 791) ((zd_169 _).trans rfl) zm_169 rfl rfl ?_
  refine zev_ialdX (pc' := 792) ((zd_169 _).trans rfl) zm_169 rfl (zB_0 zx4_Rm.2.2.2.1) (by decide) ?_
  refine zt_V (pc' := 795) ((zd_169 _).trans rfl) zm_169 rfl zq_8_98 rfl (Nat.le_of_ble_eq_true rfl) (zB_c zx4_1) zqv_8_98_4 (by decide) rfl (zmet_ov zx4_n h1) ?_
  refine zt (pc' := 796) ((zd_169 _).trans rfl) zm_169 rfl rfl ?_
  refine zt (pc' := 797) ((zd_169 _).trans rfl) zm_169 rfl rfl ?_
  refine zt (pc' := 798) ((zd_169 _).trans rfl) zm_169 rfl rfl ?_
  refine zt (pc' := 799) ((zd_169 _).trans rfl) zm_169 rfl rfl ?_
  refine zt (pc' := 800) ((zd_169 _).trans rfl) zm_169 rfl rfl ?_
  refine zev_ialdX (pc' := 801) ((zd_169 _).trans rfl) zm_169 rfl (zB_0 q1.2.2.2.1) (by decide) ?_
  refine zt_V (pc' := 804) ((zd_169 _).trans rfl) zm_169 rfl zq_8_101 rfl (Nat.le_of_ble_eq_true rfl) (zB_c h9) zqv_8_101_5 (by decide) rfl (zmet_ov q1.1 h2) ?_
  refine zt_icT (tgt := 822) (pc' := 807) ((zd_169 _).trans rfl) zm_169 rfl rfl (zeq rfl) ?_
  refine zt (pc' := 825) ((zd_169 _).trans rfl) zm_169 rfl rfl ?_
  refine zt (pc' := 18) ((zd_169 _).trans rfl) zm_169 rfl rfl ?_
  exact zl_out (zB_0 q2.2.2.2.1) (by decide)
theorem zl_oneShape {xs : Nat → Int32} (h : zP 92 147 []) : ∃ w', zev 41 169 809 [some (.ref 0), some (.ref 1), some (.ref 9), some (.int 0)] [] (zov (zB 5 xs) zx4) (some (.int 1)) w' ∧ w'.2.1 ≤ 600000 ∧ w'.2.2 ≤ 7302250 := by
  obtain ⟨v, w1, w2, h1, h2, q1, q2⟩ := h
  obtain ⟨fs, h9⟩ := q1.2.2.2.2
  refine ⟨zov (zB 5 xs) w2, ?_, q2.2.1, q2.2.2.1⟩
  refine zt (pc' := 810) ((zd_169 _).trans rfl) zm_169 rfl rfl ?_
  refine zt_V (pc' := 813) ((zd_169 _).trans rfl) zm_169 rfl zq_8_102 rfl (Nat.le_of_ble_eq_true rfl) (zB_c zx4_1) zqv_8_102_4 (by decide) rfl (zmet_ov zx4_n h1) ?_
  refine zt (pc' := 814) ((zd_169 _).trans rfl) zm_169 rfl rfl ?_
  refine zt_V (pc' := 817) ((zd_169 _).trans rfl) zm_169 rfl zq_8_105 rfl (Nat.le_of_ble_eq_true rfl) (zB_c h9) zqv_8_105_5 (by decide) rfl (zmet_ov q1.1 h2) ?_
  refine zt_icT (tgt := 822) (pc' := 820) ((zd_169 _).trans rfl) zm_169 rfl rfl (zeq rfl) ?_
  refine zt (pc' := 825) ((zd_169 _).trans rfl) zm_169 rfl rfl ?_
  refine zt (pc' := 18) ((zd_169 _).trans rfl) zm_169 rfl rfl ?_
  exact zl_out (zB_0 q2.2.2.2.1) (by decide)
