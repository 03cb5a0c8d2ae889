/-! the law out of the rows of calls (printed by wip/gen/lawall.py) -/
theorem zdL_32 : zdec 169 32 = some (.tableswitch 790 0 21 #[104, 127, 180, 213, 226, 259, 282, 315, 348, 381, 414, 467, 490, 513, 536, 569, 612, 655, 688, 731, 754, 777], 104) := by decide +kernel
theorem zand31 (x : Int32) : ∃ k : Nat, k < 32 ∧ x &&& 31 = Int32.ofNat k := by
  refine ⟨(x.toBitVec &&& 31#32).toNat, ?_, ?_⟩
  · rw [BitVec.toNat_and]
    exact Nat.lt_of_le_of_lt Nat.and_le_right (by decide)
  · apply Int32.toBitVec_inj.mp
    have h1 : (31 : Int32).toBitVec = 31#32 := rfl
    rw [Int32.toBitVec_and, Int32.toBitVec_ofNat', h1, BitVec.ofNat_toNat, BitVec.setWidth_eq]
theorem zts_i {x : Int32} {dd lo hi off : Int} {offs : Array Int} {pc tgt nL len : Nat} {L : zL} {r : List Value} (h : ¬ (x.toInt < lo ∨ hi < x.toInt)) (ho : offs[(x.toInt - lo).toNat]? = some off) (ht : zJ pc off L r = some (tgt, L, r)) : zA nL (.tableswitch dd lo hi offs) len pc L (.int x :: r) = some (tgt, L, r) := by
  simp only [zA, zts, if_neg h, ho]
  exact ht
theorem zl_b0 {d : Nat} {w w' : zW} {r : Option Value} {L : zL} (h : zev d 169 136 L [] w r w') : zev d 169 32 L [.int (Int32.ofNat 0)] w r w' := zt (pc' := 136) zdL_32 zm_169 rfl (zts_i (off := 104) (by decide) (by decide) rfl) h
theorem zl_b1 {d : Nat} {w w' : zW} {r : Option Value} {L : zL} (h : zev d 169 159 L [] w r w') : zev d 169 32 L [.int (Int32.ofNat 1)] w r w' := zt (pc' := 159) zdL_32 zm_169 rfl (zts_i (off := 127) (by decide) (by decide) rfl) h
theorem zl_b2 {d : Nat} {w w' : zW} {r : Option Value} {L : zL} (h : zev d 169 212 L [] w r w') : zev d 169 32 L [.int (Int32.ofNat 2)] w r w' := zt (pc' := 212) zdL_32 zm_169 rfl (zts_i (off := 180) (by decide) (by decide) rfl) h
theorem zl_b3 {d : Nat} {w w' : zW} {r : Option Value} {L : zL} (h : zev d 169 245 L [] w r w') : zev d 169 32 L [.int (Int32.ofNat 3)] w r w' := zt (pc' := 245) zdL_32 zm_169 rfl (zts_i (off := 213) (by decide) (by decide) rfl) h
theorem zl_b4 {d : Nat} {w w' : zW} {r : Option Value} {L : zL} (h : zev d 169 258 L [] w r w') : zev d 169 32 L [.int (Int32.ofNat 4)] w r w' := zt (pc' := 258) zdL_32 zm_169 rfl (zts_i (off := 226) (by decide) (by decide) rfl) h
theorem zl_b5 {d : Nat} {w w' : zW} {r : Option Value} {L : zL} (h : zev d 169 291 L [] w r w') : zev d 169 32 L [.int (Int32.ofNat 5)] w r w' := zt (pc' := 291) zdL_32 zm_169 rfl (zts_i (off := 259) (by decide) (by decide) rfl) h
theorem zl_b6 {d : Nat} {w w' : zW} {r : Option Value} {L : zL} (h : zev d 169 314 L [] w r w') : zev d 169 32 L [.int (Int32.ofNat 6)] w r w' := zt (pc' := 314) zdL_32 zm_169 rfl (zts_i (off := 282) (by decide) (by decide) rfl) h
theorem zl_b7 {d : Nat} {w w' : zW} {r : Option Value} {L : zL} (h : zev d 169 347 L [] w r w') : zev d 169 32 L [.int (Int32.ofNat 7)] w r w' := zt (pc' := 347) zdL_32 zm_169 rfl (zts_i (off := 315) (by decide) (by decide) rfl) h
theorem zl_b8 {d : Nat} {w w' : zW} {r : Option Value} {L : zL} (h : zev d 169 380 L [] w r w') : zev d 169 32 L [.int (Int32.ofNat 8)] w r w' := zt (pc' := 380) zdL_32 zm_169 rfl (zts_i (off := 348) (by decide) (by decide) rfl) h
theorem zl_b9 {d : Nat} {w w' : zW} {r : Option Value} {L : zL} (h : zev d 169 413 L [] w r w') : zev d 169 32 L [.int (Int32.ofNat 9)] w r w' := zt (pc' := 413) zdL_32 zm_169 rfl (zts_i (off := 381) (by decide) (by decide) rfl) h
theorem zl_b10 {d : Nat} {w w' : zW} {r : Option Value} {L : zL} (h : zev d 169 446 L [] w r w') : zev d 169 32 L [.int (Int32.ofNat 10)] w r w' := zt (pc' := 446) zdL_32 zm_169 rfl (zts_i (off := 414) (by decide) (by decide) rfl) h
theorem zl_b11 {d : Nat} {w w' : zW} {r : Option Value} {L : zL} (h : zev d 169 499 L [] w r w') : zev d 169 32 L [.int (Int32.ofNat 11)] w r w' := zt (pc' := 499) zdL_32 zm_169 rfl (zts_i (off := 467) (by decide) (by decide) rfl) h
theorem zl_b12 {d : Nat} {w w' : zW} {r : Option Value} {L : zL} (h : zev d 169 522 L [] w r w') : zev d 169 32 L [.int (Int32.ofNat 12)] w r w' := zt (pc' := 522) zdL_32 zm_169 rfl (zts_i (off := 490) (by decide) (by decide) rfl) h
theorem zl_b13 {d : Nat} {w w' : zW} {r : Option Value} {L : zL} (h : zev d 169 545 L [] w r w') : zev d 169 32 L [.int (Int32.ofNat 13)] w r w' := zt (pc' := 545) zdL_32 zm_169 rfl (zts_i (off := 513) (by decide) (by decide) rfl) h
theorem zl_b14 {d : Nat} {w w' : zW} {r : Option Value} {L : zL} (h : zev d 169 568 L [] w r w') : zev d 169 32 L [.int (Int32.ofNat 14)] w r w' := zt (pc' := 568) zdL_32 zm_169 rfl (zts_i (off := 536) (by decide) (by decide) rfl) h
theorem zl_b15 {d : Nat} {w w' : zW} {r : Option Value} {L : zL} (h : zev d 169 601 L [] w r w') : zev d 169 32 L [.int (Int32.ofNat 15)] w r w' := zt (pc' := 601) zdL_32 zm_169 rfl (zts_i (off := 569) (by decide) (by decide) rfl) h
theorem zl_b16 {d : Nat} {w w' : zW} {r : Option Value} {L : zL} (h : zev d 169 644 L [] w r w') : zev d 169 32 L [.int (Int32.ofNat 16)] w r w' := zt (pc' := 644) zdL_32 zm_169 rfl (zts_i (off := 612) (by decide) (by decide) rfl) h
theorem zl_b17 {d : Nat} {w w' : zW} {r : Option Value} {L : zL} (h : zev d 169 687 L [] w r w') : zev d 169 32 L [.int (Int32.ofNat 17)] w r w' := zt (pc' := 687) zdL_32 zm_169 rfl (zts_i (off := 655) (by decide) (by decide) rfl) h
theorem zl_b18 {d : Nat} {w w' : zW} {r : Option Value} {L : zL} (h : zev d 169 720 L [] w r w') : zev d 169 32 L [.int (Int32.ofNat 18)] w r w' := zt (pc' := 720) zdL_32 zm_169 rfl (zts_i (off := 688) (by decide) (by decide) rfl) h
theorem zl_b19 {d : Nat} {w w' : zW} {r : Option Value} {L : zL} (h : zev d 169 763 L [] w r w') : zev d 169 32 L [.int (Int32.ofNat 19)] w r w' := zt (pc' := 763) zdL_32 zm_169 rfl (zts_i (off := 731) (by decide) (by decide) rfl) h
theorem zl_b20 {d : Nat} {w w' : zW} {r : Option Value} {L : zL} (h : zev d 169 786 L [] w r w') : zev d 169 32 L [.int (Int32.ofNat 20)] w r w' := zt (pc' := 786) zdL_32 zm_169 rfl (zts_i (off := 754) (by decide) (by decide) rfl) h
theorem zl_b21 {d : Nat} {w w' : zW} {r : Option Value} {L : zL} (h : zev d 169 809 L [] w r w') : zev d 169 32 L [.int (Int32.ofNat 21)] w r w' := zt (pc' := 809) zdL_32 zm_169 rfl (zts_i (off := 777) (by decide) (by decide) rfl) h
theorem zl_sw (xs : Nat → Int32) : ∃ w', zev 41 169 32 [some (.ref 0), some (.ref 1), some (.ref 9), some (.int 0)] [.int (xs 0 &&& 31)] (zov (zB 5 xs) zx4) (some (.int 1)) w' ∧ w'.2.1 ≤ 600000 ∧ w'.2.2 ≤ 7302250 := by
  obtain ⟨k, hk, e⟩ := zand31 (xs 0)
  rw [e]
  have hc : k = 0 ∨ k = 1 ∨ k = 2 ∨ k = 3 ∨ k = 4 ∨ k = 5 ∨ k = 6 ∨ k = 7 ∨ k = 8 ∨ k = 9 ∨ k = 10 ∨ k = 11 ∨ k = 12 ∨ k = 13 ∨ k = 14 ∨ k = 15 ∨ k = 16 ∨ k = 17 ∨ k = 18 ∨ k = 19 ∨ k = 20 ∨ k = 21 ∨ 22 ≤ k := by omega
  rcases hc with rfl | rfl | rfl | rfl | rfl | rfl | rfl | rfl | rfl | rfl | rfl | rfl | rfl | rfl | rfl | rfl | rfl | rfl | rfl | rfl | rfl | rfl | hk2
  · obtain ⟨w', h, r⟩ := zl_begin (xs := xs) (p_begin (xs 1))
    exact ⟨w', zl_b0 h, r⟩
  · obtain ⟨w', h, r⟩ := zl_joint (xs := xs) (p_joint (xs 1) (xs 2) (xs 3) (xs 4))
    exact ⟨w', zl_b1 h, r⟩
  · obtain ⟨w', h, r⟩ := zl_bar (xs := xs) (p_bar (xs 1) (xs 2))
    exact ⟨w', zl_b2 h, r⟩
  · obtain ⟨w', h, r⟩ := zl_unbar (xs := xs) (p_unbar)
    exact ⟨w', zl_b3 h, r⟩
  · obtain ⟨w', h, r⟩ := zl_sign (xs := xs) (p_sign (xs 1) (xs 2))
    exact ⟨w', zl_b4 h, r⟩
  · obtain ⟨w', h, r⟩ := zl_count (xs := xs) (p_count (xs 1))
    exact ⟨w', zl_b5 h, r⟩
  · obtain ⟨w', h, r⟩ := zl_end (xs := xs) (p_end (xs 1) (xs 2))
    exact ⟨w', zl_b6 h, r⟩
  · obtain ⟨w', h, r⟩ := zl_at (xs := xs) (p_at (xs 1) (xs 2))
    exact ⟨w', zl_b7 h, r⟩
  · obtain ⟨w', h, r⟩ := zl_rank (xs := xs) (p_rank (xs 1) (xs 2))
    exact ⟨w', zl_b8 h, r⟩
  · obtain ⟨w', h, r⟩ := zl_closure (xs := xs) (p_closure (xs 1) (xs 2))
    exact ⟨w', zl_b9 h, r⟩
  · obtain ⟨w', h, r⟩ := zl_implied (xs := xs) (p_implied (xs 1) (xs 2) (xs 3) (xs 4))
    exact ⟨w', zl_b10 h, r⟩
  · obtain ⟨w', h, r⟩ := zl_rigid (xs := xs) (p_rigid (xs 1))
    exact ⟨w', zl_b11 h, r⟩
  · obtain ⟨w', h, r⟩ := zl_lacks (xs := xs) (p_lacks (xs 1))
    exact ⟨w', zl_b12 h, r⟩
  · obtain ⟨w', h, r⟩ := zl_spare (xs := xs) (p_spare (xs 1))
    exact ⟨w', zl_b13 h, r⟩
  · obtain ⟨w', h, r⟩ := zl_many (xs := xs) (p_many (xs 1) (xs 2))
    exact ⟨w', zl_b14 h, r⟩
  · obtain ⟨w', h, r⟩ := zl_told (xs := xs) (p_told (xs 1) (xs 2) (xs 3))
    exact ⟨w', zl_b15 h, r⟩
  · obtain ⟨w', h, r⟩ := zl_coefficient (xs := xs) (p_coefficient (xs 1) (xs 2) (xs 3))
    exact ⟨w', zl_b16 h, r⟩
  · obtain ⟨w', h, r⟩ := zl_cluster (xs := xs) (p_cluster (xs 1) (xs 2))
    exact ⟨w', zl_b17 h, r⟩
  · obtain ⟨w', h, r⟩ := zl_stressed (xs := xs) (p_stressed (xs 1) (xs 2) (xs 3))
    exact ⟨w', zl_b18 h, r⟩
  · obtain ⟨w', h, r⟩ := zl_holds (xs := xs) (p_holds (xs 1))
    exact ⟨w', zl_b19 h, r⟩
  · obtain ⟨w', h, r⟩ := zl_built (xs := xs) (p_built (xs 1))
    exact ⟨w', zl_b20 h, r⟩
  · obtain ⟨w', h, r⟩ := zl_oneShape (xs := xs) (p_oneShape)
    exact ⟨w', zl_b21 h, r⟩
  · refine ⟨zov (zB 5 xs) zx4, ?_, zx4_Rm.2.1, zx4_Rm.2.2.1⟩
    have hd : (Int32.ofNat k).toInt < 0 ∨ 21 < (Int32.ofNat k).toInt := by
      have e : (Int32.ofNat k).toInt = (k : Int) := Int32.toInt_ofNat_of_lt (by omega)
      omega
    refine zt (pc' := 822) zdL_32 zm_169 rfl (zts_d hd rfl) ?_
    refine zt (pc' := 825) zdL_822 zm_169 rfl rfl ?_
    refine zt (pc' := 18) zdL_825 zm_169 rfl rfl ?_
    exact zl_out (zB_0 zx4_Rm.2.2.2.1) (by decide)
theorem zl_run {L : Nat} (xs : Nat → Int32) (hL : L ≤ 5) : ∃ w', zev 41 169 0 (zin 4 [.ref 0]) [] (z1w L xs) (some (.int 1)) w' ∧ w'.2.1 ≤ 600000 ∧ w'.2.2 ≤ 7302250 := by
  by_cases h5 : L = 5
  · subst h5
    obtain ⟨w', h, r⟩ := zl_sw xs
    exact ⟨w', zl_in (zl_go (zB_0 zx4_Rm.2.2.2.1) h), r⟩
  · refine ⟨zov (zB L xs) zx4, zl_in (zl_out (zB_0 zx4_Rm.2.2.2.1) ?_), zx4_Rm.2.1, zx4_Rm.2.2.1⟩
    have h : L = 0 ∨ L = 1 ∨ L = 2 ∨ L = 3 ∨ L = 4 := by omega
    rcases h with h | h | h | h | h <;> subst h <;> decide
