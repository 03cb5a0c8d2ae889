/-! worlds behind matroidOf; calls with any arguments (printed by wip/gen/ref2.py) -/
theorem zq_6_86 : zcl 6 86 = some (3, 1, 16, 1) := by decide +kernel
theorem zqv_6_86_1 : zclv 6 86 1 = some (3, 1, 16, 1) := by decide +kernel
def zy0 : zW := zKw (zrunT 1000000 39 91 0 (zin 2 [.ref 1, .int 0]) [] zx4)
def za0 : Nat := match (zrunT 1000000 39 91 0 (zin 2 [.ref 1, .int 0]) [] zx4) with
  | some (some (.ref a), _) => a
  | _ => 0
theorem zy0_m : zmet 39 91 [.ref 1, .int 0] zx4 (some (.ref za0)) zy0 := zmetK zm_91 (by decide) (by decide +kernel)
theorem zy0_1 : zy0.1 1 = some (.inr (4, [.ref 2, .ref 7, .ref 8])) := zobj_ok (by decide +kernel)
theorem zy0_2 : zy0.1 2 = some (.inr (1, [.ref 3, .ref 4, .ref 5, .ref 6, .int 1, .int 0, .int 1])) := zobj_ok (by decide +kernel)
theorem zy0_9 : ∃ p ms, zy0.1 9 = some (.inr (5, .int 1 :: p :: .int 0 :: ms)) := by
  have h : (match zy0.1 9 with | some (.inr (5, .int 1 :: _ :: .int 0 :: _)) => true | _ => false) = true := by decide +kernel
  split at h
  · rename_i p ms hw
    exact ⟨p, ms, hw⟩
  · cases h
theorem zy0_r : zRm zy0 := zRm_ok (by decide +kernel)
def zy1 : zW := zKw (zrunT 1000000 39 91 0 (zin 2 [.ref 1, .int 1]) [] zx4)
def za1 : Nat := match (zrunT 1000000 39 91 0 (zin 2 [.ref 1, .int 1]) [] zx4) with
  | some (some (.ref a), _) => a
  | _ => 0
theorem zy1_m : zmet 39 91 [.ref 1, .int 1] zx4 (some (.ref za1)) zy1 := zmetK zm_91 (by decide) (by decide +kernel)
theorem zy1_1 : zy1.1 1 = some (.inr (4, [.ref 2, .ref 7, .ref 8])) := zobj_ok (by decide +kernel)
theorem zy1_2 : zy1.1 2 = some (.inr (1, [.ref 3, .ref 4, .ref 5, .ref 6, .int 1, .int 0, .int 1])) := zobj_ok (by decide +kernel)
theorem zy1_9 : ∃ p ms, zy1.1 9 = some (.inr (5, .int 1 :: p :: .int 0 :: ms)) := by
  have h : (match zy1.1 9 with | some (.inr (5, .int 1 :: _ :: .int 0 :: _)) => true | _ => false) = true := by decide +kernel
  split at h
  · rename_i p ms hw
    exact ⟨p, ms, hw⟩
  · cases h
theorem zy1_r : zRm zy1 := zRm_ok (by decide +kernel)
def zy2 : zW := zKw (zrunT 1000000 39 91 0 (zin 2 [.ref 1, .int 2]) [] zx4)
def za2 : Nat := match (zrunT 1000000 39 91 0 (zin 2 [.ref 1, .int 2]) [] zx4) with
  | some (some (.ref a), _) => a
  | _ => 0
theorem zy2_m : zmet 39 91 [.ref 1, .int 2] zx4 (some (.ref za2)) zy2 := zmetK zm_91 (by decide) (by decide +kernel)
theorem zy2_1 : zy2.1 1 = some (.inr (4, [.ref 2, .ref 7, .ref 8])) := zobj_ok (by decide +kernel)
theorem zy2_2 : zy2.1 2 = some (.inr (1, [.ref 3, .ref 4, .ref 5, .ref 6, .int 1, .int 0, .int 1])) := zobj_ok (by decide +kernel)
theorem zy2_9 : ∃ p ms, zy2.1 9 = some (.inr (5, .int 1 :: p :: .int 0 :: ms)) := by
  have h : (match zy2.1 9 with | some (.inr (5, .int 1 :: _ :: .int 0 :: _)) => true | _ => false) = true := by decide +kernel
  split at h
  · rename_i p ms hw
    exact ⟨p, ms, hw⟩
  · cases h
theorem zy2_r : zRm zy2 := zRm_ok (by decide +kernel)
theorem z012 {v : Int32} (h : ¬ (v < 0 ∨ 2 < v)) : v = 0 ∨ v = 1 ∨ v = 2 := by
  rw [Int32.lt_iff_toInt_lt, Int32.lt_iff_toInt_lt] at h
  have e0 : (0 : Int32).toInt = 0 := rfl
  have e2 : (2 : Int32).toInt = 2 := rfl
  have e : v.toInt = 0 ∨ v.toInt = 1 ∨ v.toInt = 2 := by omega
  rcases e with e | e | e
  · exact Or.inl (Int32.toInt_inj.mp e)
  · exact Or.inr (Or.inl (Int32.toInt_inj.mp e))
  · exact Or.inr (Or.inr (Int32.toInt_inj.mp e))
theorem z0s {v : Int32} (h : ¬ (v < 0 ∨ 1 <<< ((0 : Int32) &&& 31) - 1 < v)) : v = 0 := by
  rw [Int32.lt_iff_toInt_lt, Int32.lt_iff_toInt_lt] at h
  have e0 : (0 : Int32).toInt = 0 := rfl
  have e2 : ((1 : Int32) <<< ((0 : Int32) &&& 31) - 1).toInt = 0 := by decide
  exact Int32.toInt_inj.mp (by omega)
theorem z06 {v : Int32} (h : ¬ (v < 0 ∨ 6 < v)) : v = 0 ∨ v = 1 ∨ v = 2 ∨ v = 3 ∨ v = 4 ∨ v = 5 ∨ v = 6 := by
  rw [Int32.lt_iff_toInt_lt, Int32.lt_iff_toInt_lt] at h
  have e0 : (0 : Int32).toInt = 0 := rfl
  have e2 : (6 : Int32).toInt = 6 := rfl
  have e : v.toInt = 0 ∨ v.toInt = 1 ∨ v.toInt = 2 ∨ v.toInt = 3 ∨ v.toInt = 4 ∨ v.toInt = 5 ∨ v.toInt = 6 := by omega
  rcases e with e | e | e | e | e | e | e
  · exact Or.inl (Int32.toInt_inj.mp e)
  · exact Or.inr (Or.inl (Int32.toInt_inj.mp e))
  · exact Or.inr (Or.inr (Or.inl (Int32.toInt_inj.mp e)))
  · exact Or.inr (Or.inr (Or.inr (Or.inl (Int32.toInt_inj.mp e))))
  · exact Or.inr (Or.inr (Or.inr (Or.inr (Or.inl (Int32.toInt_inj.mp e)))))
  · exact Or.inr (Or.inr (Or.inr (Or.inr (Or.inr (Or.inl (Int32.toInt_inj.mp e))))))
  · exact Or.inr (Or.inr (Or.inr (Or.inr (Or.inr (Or.inr ((Int32.toInt_inj.mp e)))))))
theorem z17 {v : Int32} (h : ¬ (v < 1 ∨ 7 < v)) : v = 1 ∨ v = 2 ∨ v = 3 ∨ v = 4 ∨ v = 5 ∨ v = 6 ∨ v = 7 := by
  rw [Int32.lt_iff_toInt_lt, Int32.lt_iff_toInt_lt] at h
  have e0 : (1 : Int32).toInt = 1 := rfl
  have e2 : (7 : Int32).toInt = 7 := rfl
  have e : v.toInt = 1 ∨ v.toInt = 2 ∨ v.toInt = 3 ∨ v.toInt = 4 ∨ v.toInt = 5 ∨ v.toInt = 6 ∨ v.toInt = 7 := by omega
  rcases e with e | e | e | e | e | e | e
  · exact Or.inl (Int32.toInt_inj.mp e)
  · exact Or.inr (Or.inl (Int32.toInt_inj.mp e))
  · exact Or.inr (Or.inr (Or.inl (Int32.toInt_inj.mp e)))
  · exact Or.inr (Or.inr (Or.inr (Or.inl (Int32.toInt_inj.mp e))))
  · exact Or.inr (Or.inr (Or.inr (Or.inr (Or.inl (Int32.toInt_inj.mp e)))))
  · exact Or.inr (Or.inr (Or.inr (Or.inr (Or.inr (Or.inl (Int32.toInt_inj.mp e))))))
  · exact Or.inr (Or.inr (Or.inr (Or.inr (Or.inr (Or.inr ((Int32.toInt_inj.mp e)))))))
theorem z7n {b : Int32} (h : 6 < b) : ¬ b < 7 := by
  rw [Int32.lt_iff_toInt_lt] at h ⊢
  have e6 : (6 : Int32).toInt = 6 := rfl
  have e7 : (7 : Int32).toInt = 7 := rfl
  omega
theorem s_rank0 {w1 : zW} {za : Nat} (hm : zmet 39 91 [.ref 1, .int 0] zx4 (some (.ref za)) w1) (k1 : w1.1 1 = some (.inr (4, [.ref 2, .ref 7, .ref 8]))) (k2 : w1.1 2 = some (.inr (1, [.ref 3, .ref 4, .ref 5, .ref 6, .int 1, .int 0, .int 1]))) {b : Int32} (hb : b < 0 ∨ 1 <<< ((0 : Int32) &&& 31) - 1 < b) : zmet 40 93 [.ref 1, .int 0, .int b] zx4 (some (.int (-2))) w1 := by
  refine ⟨_, rfl, Nat.le_of_ble_eq_true rfl, ?_⟩
  show zev 40 93 0 [some (.ref 1), some (.int 0), some (.int b), none] [] zx4 _ _
  refine zt (pc' := 1) ((zd_93 _).trans rfl) zm_93 rfl rfl ?_
  refine zt (pc' := 2) ((zd_93 _).trans rfl) zm_93 rfl rfl ?_
  refine zt_V (pc' := 5) ((zd_93 _).trans rfl) zm_93 rfl zq_6_82 rfl (Nat.le_of_ble_eq_true rfl) zx4_1 zqv_6_82_4 (by decide) rfl (hm) ?_
  refine zt (pc' := 6) ((zd_93 _).trans rfl) zm_93 rfl rfl ?_
  refine zt (pc' := 7) ((zd_93 _).trans rfl) zm_93 rfl rfl ?_
  refine zt (pc' := 10) ((zd_93 _).trans rfl) zm_93 rfl rfl ?_
  refine zt (pc' := 11) ((zd_93 _).trans rfl) zm_93 rfl rfl ?_
  refine zt_get (pc' := 14) ((zd_93 _).trans rfl) zm_93 rfl rfl k1 (by decide) rfl ?_
  refine zt (pc' := 15) ((zd_93 _).trans rfl) zm_93 rfl rfl ?_
  refine zt_V (pc' := 18) ((zd_93 _).trans rfl) zm_93 rfl zq_6_86 rfl (Nat.le_of_ble_eq_true rfl) k2 zqv_6_86_1 (by decide) rfl (c_hasSet0 k2 hb) ?_
  refine zt_ifF (tgt := 24) (pc' := 21) ((zd_93 _).trans rfl) zm_93 rfl rfl (znne rfl) ?_
  refine zt (pc' := 23) ((zd_93 _).trans rfl) zm_93 rfl rfl ?_
  exact zte ((zd_93 _).trans rfl) zm_93 rfl
theorem s_closure0 {w1 : zW} {za : Nat} (hm : zmet 39 91 [.ref 1, .int 0] zx4 (some (.ref za)) w1) (k1 : w1.1 1 = some (.inr (4, [.ref 2, .ref 7, .ref 8]))) (k2 : w1.1 2 = some (.inr (1, [.ref 3, .ref 4, .ref 5, .ref 6, .int 1, .int 0, .int 1]))) {b : Int32} (hb : b < 0 ∨ 1 <<< ((0 : Int32) &&& 31) - 1 < b) : zmet 40 76 [.ref 1, .int 0, .int b] zx4 (some (.int (-2))) w1 := by
  refine ⟨_, rfl, Nat.le_of_ble_eq_true rfl, ?_⟩
  show zev 40 76 0 [some (.ref 1), some (.int 0), some (.int b), none] [] zx4 _ _
  refine zt (pc' := 1) ((zd_76 _).trans rfl) zm_76 rfl rfl ?_
  refine zt (pc' := 2) ((zd_76 _).trans rfl) zm_76 rfl rfl ?_
  refine zt_V (pc' := 5) ((zd_76 _).trans rfl) zm_76 rfl zq_6_82 rfl (Nat.le_of_ble_eq_true rfl) zx4_1 zqv_6_82_4 (by decide) rfl (hm) ?_
  refine zt (pc' := 6) ((zd_76 _).trans rfl) zm_76 rfl rfl ?_
  refine zt (pc' := 7) ((zd_76 _).trans rfl) zm_76 rfl rfl ?_
  refine zt (pc' := 10) ((zd_76 _).trans rfl) zm_76 rfl rfl ?_
  refine zt (pc' := 11) ((zd_76 _).trans rfl) zm_76 rfl rfl ?_
  refine zt_get (pc' := 14) ((zd_76 _).trans rfl) zm_76 rfl rfl k1 (by decide) rfl ?_
  refine zt (pc' := 15) ((zd_76 _).trans rfl) zm_76 rfl rfl ?_
  refine zt_V (pc' := 18) ((zd_76 _).trans rfl) zm_76 rfl zq_6_86 rfl (Nat.le_of_ble_eq_true rfl) k2 zqv_6_86_1 (by decide) rfl (c_hasSet0 k2 hb) ?_
  refine zt_ifF (tgt := 24) (pc' := 21) ((zd_76 _).trans rfl) zm_76 rfl rfl (znne rfl) ?_
  refine zt (pc' := 23) ((zd_76 _).trans rfl) zm_76 rfl rfl ?_
  exact zte ((zd_76 _).trans rfl) zm_76 rfl
theorem s_implied0 {w1 : zW} {za : Nat} (hm : zmet 39 91 [.ref 1, .int 0] zx4 (some (.ref za)) w1) (k1 : w1.1 1 = some (.inr (4, [.ref 2, .ref 7, .ref 8]))) (k2 : w1.1 2 = some (.inr (1, [.ref 3, .ref 4, .ref 5, .ref 6, .int 1, .int 0, .int 1]))) {a b c : Int32} : zmet 40 82 [.ref 1, .int 0, .int a, .int b, .int c] zx4 (some (.int (-2))) w1 := by
  refine ⟨_, rfl, Nat.le_of_ble_eq_true rfl, ?_⟩
  show zev 40 82 0 [some (.ref 1), some (.int 0), some (.int a), some (.int b), some (.int c), none] [] zx4 _ _
  refine zt (pc' := 1) ((zd_82 _).trans rfl) zm_82 rfl rfl ?_
  refine zt (pc' := 2) ((zd_82 _).trans rfl) zm_82 rfl rfl ?_
  refine zt_V (pc' := 5) ((zd_82 _).trans rfl) zm_82 rfl zq_6_82 rfl (Nat.le_of_ble_eq_true rfl) zx4_1 zqv_6_82_4 (by decide) rfl (hm) ?_
  refine zt (pc' := 7) ((zd_82 _).trans rfl) zm_82 rfl rfl ?_
  refine zt (pc' := 9) ((zd_82 _).trans rfl) zm_82 rfl rfl ?_
  refine zt (pc' := 12) ((zd_82 _).trans rfl) zm_82 rfl rfl ?_
  refine zt (pc' := 13) ((zd_82 _).trans rfl) zm_82 rfl rfl ?_
  refine zt (pc' := 14) ((zd_82 _).trans rfl) zm_82 rfl rfl ?_
  refine zt (pc' := 15) ((zd_82 _).trans rfl) zm_82 rfl rfl ?_
  refine zt_V (pc' := 18) ((zd_82 _).trans rfl) zm_82 rfl zq_6_45 rfl (Nat.le_of_ble_eq_true rfl) k1 zqv_6_45_4 (by decide) rfl (c_isPair0 k1 k2) ?_
  refine zt_ifT (tgt := 33) (pc' := 21) ((zd_82 _).trans rfl) zm_82 rfl rfl (zeq rfl) ?_
  refine zt (pc' := 35) ((zd_82 _).trans rfl) zm_82 rfl rfl ?_
  exact zte ((zd_82 _).trans rfl) zm_82 rfl
theorem s_many0 {w1 : zW} {za : Nat} (hm : zmet 39 91 [.ref 1, .int 0] zx4 (some (.ref za)) w1) {b : Int32} (hb : b < 0 ∨ 6 < b) : zmet 40 90 [.ref 1, .int 0, .int b] zx4 (some (.int (-2))) w1 := by
  refine ⟨_, rfl, Nat.le_of_ble_eq_true rfl, ?_⟩
  show zev 40 90 0 [some (.ref 1), some (.int 0), some (.int b), none] [] zx4 _ _
  by_cases h1 : b < 0
  · refine zt (pc' := 1) ((zd_90 _).trans rfl) zm_90 rfl rfl ?_
    refine zt (pc' := 2) ((zd_90 _).trans rfl) zm_90 rfl rfl ?_
    refine zt_V (pc' := 5) ((zd_90 _).trans rfl) zm_90 rfl zq_6_82 rfl (Nat.le_of_ble_eq_true rfl) zx4_1 zqv_6_82_4 (by decide) rfl (hm) ?_
    refine zt (pc' := 6) ((zd_90 _).trans rfl) zm_90 rfl rfl ?_
    refine zt (pc' := 7) ((zd_90 _).trans rfl) zm_90 rfl rfl ?_
    refine zt (pc' := 10) ((zd_90 _).trans rfl) zm_90 rfl rfl ?_
    refine zt (pc' := 11) ((zd_90 _).trans rfl) zm_90 rfl rfl ?_
    refine zt_ifT (tgt := 20) (pc' := 14) ((zd_90 _).trans rfl) zm_90 rfl rfl (zlt h1) ?_
    refine zt (pc' := 22) ((zd_90 _).trans rfl) zm_90 rfl rfl ?_
    exact zte ((zd_90 _).trans rfl) zm_90 rfl
  · have h2 : ¬ b < 7 := z7n (hb.resolve_left h1)
    refine zt (pc' := 1) ((zd_90 _).trans rfl) zm_90 rfl rfl ?_
    refine zt (pc' := 2) ((zd_90 _).trans rfl) zm_90 rfl rfl ?_
    refine zt_V (pc' := 5) ((zd_90 _).trans rfl) zm_90 rfl zq_6_82 rfl (Nat.le_of_ble_eq_true rfl) zx4_1 zqv_6_82_4 (by decide) rfl (hm) ?_
    refine zt (pc' := 6) ((zd_90 _).trans rfl) zm_90 rfl rfl ?_
    refine zt (pc' := 7) ((zd_90 _).trans rfl) zm_90 rfl rfl ?_
    refine zt (pc' := 10) ((zd_90 _).trans rfl) zm_90 rfl rfl ?_
    refine zt (pc' := 11) ((zd_90 _).trans rfl) zm_90 rfl rfl ?_
    refine zt_ifF (tgt := 20) (pc' := 14) ((zd_90 _).trans rfl) zm_90 rfl rfl (znlt h1) ?_
    refine zt (pc' := 15) ((zd_90 _).trans rfl) zm_90 rfl rfl ?_
    refine zt (pc' := 17) ((zd_90 _).trans rfl) zm_90 rfl rfl ?_
    refine zt_icF (tgt := 23) (pc' := 20) ((zd_90 _).trans rfl) zm_90 rfl rfl (znlt h2) ?_
    refine zt (pc' := 22) ((zd_90 _).trans rfl) zm_90 rfl rfl ?_
    exact zte ((zd_90 _).trans rfl) zm_90 rfl
theorem s_told0 {w1 : zW} {za : Nat} (hm : zmet 39 91 [.ref 1, .int 0] zx4 (some (.ref za)) w1) {b c : Int32} (hb : b < 0 ∨ 6 < b) : zmet 40 99 [.ref 1, .int 0, .int b, .int c] zx4 (some (.int (-2))) w1 := by
  refine ⟨_, rfl, Nat.le_of_ble_eq_true rfl, ?_⟩
  show zev 40 99 0 [some (.ref 1), some (.int 0), some (.int b), some (.int c), none] [] zx4 _ _
  by_cases h1 : b < 0
  · refine zt (pc' := 1) ((zd_99 _).trans rfl) zm_99 rfl rfl ?_
    refine zt (pc' := 2) ((zd_99 _).trans rfl) zm_99 rfl rfl ?_
    refine zt_V (pc' := 5) ((zd_99 _).trans rfl) zm_99 rfl zq_6_82 rfl (Nat.le_of_ble_eq_true rfl) zx4_1 zqv_6_82_4 (by decide) rfl (hm) ?_
    refine zt (pc' := 7) ((zd_99 _).trans rfl) zm_99 rfl rfl ?_
    refine zt (pc' := 9) ((zd_99 _).trans rfl) zm_99 rfl rfl ?_
    refine zt (pc' := 12) ((zd_99 _).trans rfl) zm_99 rfl rfl ?_
    refine zt (pc' := 13) ((zd_99 _).trans rfl) zm_99 rfl rfl ?_
    refine zt_ifT (tgt := 22) (pc' := 16) ((zd_99 _).trans rfl) zm_99 rfl rfl (zlt h1) ?_
    refine zt (pc' := 24) ((zd_99 _).trans rfl) zm_99 rfl rfl ?_
    exact zte ((zd_99 _).trans rfl) zm_99 rfl
  · have h2 : ¬ b < 7 := z7n (hb.resolve_left h1)
    refine zt (pc' := 1) ((zd_99 _).trans rfl) zm_99 rfl rfl ?_
    refine zt (pc' := 2) ((zd_99 _).trans rfl) zm_99 rfl rfl ?_
    refine zt_V (pc' := 5) ((zd_99 _).trans rfl) zm_99 rfl zq_6_82 rfl (Nat.le_of_ble_eq_true rfl) zx4_1 zqv_6_82_4 (by decide) rfl (hm) ?_
    refine zt (pc' := 7) ((zd_99 _).trans rfl) zm_99 rfl rfl ?_
    refine zt (pc' := 9) ((zd_99 _).trans rfl) zm_99 rfl rfl ?_
    refine zt (pc' := 12) ((zd_99 _).trans rfl) zm_99 rfl rfl ?_
    refine zt (pc' := 13) ((zd_99 _).trans rfl) zm_99 rfl rfl ?_
    refine zt_ifF (tgt := 22) (pc' := 16) ((zd_99 _).trans rfl) zm_99 rfl rfl (znlt h1) ?_
    refine zt (pc' := 17) ((zd_99 _).trans rfl) zm_99 rfl rfl ?_
    refine zt (pc' := 19) ((zd_99 _).trans rfl) zm_99 rfl rfl ?_
    refine zt_icF (tgt := 25) (pc' := 22) ((zd_99 _).trans rfl) zm_99 rfl rfl (znlt h2) ?_
    refine zt (pc' := 24) ((zd_99 _).trans rfl) zm_99 rfl rfl ?_
    exact zte ((zd_99 _).trans rfl) zm_99 rfl
theorem s_rank1 {w1 : zW} {za : Nat} (hm : zmet 39 91 [.ref 1, .int 1] zx4 (some (.ref za)) w1) (k1 : w1.1 1 = some (.inr (4, [.ref 2, .ref 7, .ref 8]))) (k2 : w1.1 2 = some (.inr (1, [.ref 3, .ref 4, .ref 5, .ref 6, .int 1, .int 0, .int 1]))) {b : Int32} (hb : b < 0 ∨ 1 <<< ((0 : Int32) &&& 31) - 1 < b) : zmet 40 93 [.ref 1, .int 1, .int b] zx4 (some (.int (-2))) w1 := by
  refine ⟨_, rfl, Nat.le_of_ble_eq_true rfl, ?_⟩
  show zev 40 93 0 [some (.ref 1), some (.int 1), some (.int b), none] [] zx4 _ _
  refine zt (pc' := 1) ((zd_93 _).trans rfl) zm_93 rfl rfl ?_
  refine zt (pc' := 2) ((zd_93 _).trans rfl) zm_93 rfl rfl ?_
  refine zt_V (pc' := 5) ((zd_93 _).trans rfl) zm_93 rfl zq_6_82 rfl (Nat.le_of_ble_eq_true rfl) zx4_1 zqv_6_82_4 (by decide) rfl (hm) ?_
  refine zt (pc' := 6) ((zd_93 _).trans rfl) zm_93 rfl rfl ?_
  refine zt (pc' := 7) ((zd_93 _).trans rfl) zm_93 rfl rfl ?_
  refine zt (pc' := 10) ((zd_93 _).trans rfl) zm_93 rfl rfl ?_
  refine zt (pc' := 11) ((zd_93 _).trans rfl) zm_93 rfl rfl ?_
  refine zt_get (pc' := 14) ((zd_93 _).trans rfl) zm_93 rfl rfl k1 (by decide) rfl ?_
  refine zt (pc' := 15) ((zd_93 _).trans rfl) zm_93 rfl rfl ?_
  refine zt_V (pc' := 18) ((zd_93 _).trans rfl) zm_93 rfl zq_6_86 rfl (Nat.le_of_ble_eq_true rfl) k2 zqv_6_86_1 (by decide) rfl (c_hasSet0 k2 hb) ?_
  refine zt_ifF (tgt := 24) (pc' := 21) ((zd_93 _).trans rfl) zm_93 rfl rfl (znne rfl) ?_
  refine zt (pc' := 23) ((zd_93 _).trans rfl) zm_93 rfl rfl ?_
  exact zte ((zd_93 _).trans rfl) zm_93 rfl
theorem s_closure1 {w1 : zW} {za : Nat} (hm : zmet 39 91 [.ref 1, .int 1] zx4 (some (.ref za)) w1) (k1 : w1.1 1 = some (.inr (4, [.ref 2, .ref 7, .ref 8]))) (k2 : w1.1 2 = some (.inr (1, [.ref 3, .ref 4, .ref 5, .ref 6, .int 1, .int 0, .int 1]))) {b : Int32} (hb : b < 0 ∨ 1 <<< ((0 : Int32) &&& 31) - 1 < b) : zmet 40 76 [.ref 1, .int 1, .int b] zx4 (some (.int (-2))) w1 := by
  refine ⟨_, rfl, Nat.le_of_ble_eq_true rfl, ?_⟩
  show zev 40 76 0 [some (.ref 1), some (.int 1), some (.int b), none] [] zx4 _ _
  refine zt (pc' := 1) ((zd_76 _).trans rfl) zm_76 rfl rfl ?_
  refine zt (pc' := 2) ((zd_76 _).trans rfl) zm_76 rfl rfl ?_
  refine zt_V (pc' := 5) ((zd_76 _).trans rfl) zm_76 rfl zq_6_82 rfl (Nat.le_of_ble_eq_true rfl) zx4_1 zqv_6_82_4 (by decide) rfl (hm) ?_
  refine zt (pc' := 6) ((zd_76 _).trans rfl) zm_76 rfl rfl ?_
  refine zt (pc' := 7) ((zd_76 _).trans rfl) zm_76 rfl rfl ?_
  refine zt (pc' := 10) ((zd_76 _).trans rfl) zm_76 rfl rfl ?_
  refine zt (pc' := 11) ((zd_76 _).trans rfl) zm_76 rfl rfl ?_
  refine zt_get (pc' := 14) ((zd_76 _).trans rfl) zm_76 rfl rfl k1 (by decide) rfl ?_
  refine zt (pc' := 15) ((zd_76 _).trans rfl) zm_76 rfl rfl ?_
  refine zt_V (pc' := 18) ((zd_76 _).trans rfl) zm_76 rfl zq_6_86 rfl (Nat.le_of_ble_eq_true rfl) k2 zqv_6_86_1 (by decide) rfl (c_hasSet0 k2 hb) ?_
  refine zt_ifF (tgt := 24) (pc' := 21) ((zd_76 _).trans rfl) zm_76 rfl rfl (znne rfl) ?_
  refine zt (pc' := 23) ((zd_76 _).trans rfl) zm_76 rfl rfl ?_
  exact zte ((zd_76 _).trans rfl) zm_76 rfl
theorem s_implied1 {w1 : zW} {za : Nat} (hm : zmet 39 91 [.ref 1, .int 1] zx4 (some (.ref za)) w1) (k1 : w1.1 1 = some (.inr (4, [.ref 2, .ref 7, .ref 8]))) (k2 : w1.1 2 = some (.inr (1, [.ref 3, .ref 4, .ref 5, .ref 6, .int 1, .int 0, .int 1]))) {a b c : Int32} : zmet 40 82 [.ref 1, .int 1, .int a, .int b, .int c] zx4 (some (.int (-2))) w1 := by
  refine ⟨_, rfl, Nat.le_of_ble_eq_true rfl, ?_⟩
  show zev 40 82 0 [some (.ref 1), some (.int 1), some (.int a), some (.int b), some (.int c), none] [] zx4 _ _
  refine zt (pc' := 1) ((zd_82 _).trans rfl) zm_82 rfl rfl ?_
  refine zt (pc' := 2) ((zd_82 _).trans rfl) zm_82 rfl rfl ?_
  refine zt_V (pc' := 5) ((zd_82 _).trans rfl) zm_82 rfl zq_6_82 rfl (Nat.le_of_ble_eq_true rfl) zx4_1 zqv_6_82_4 (by decide) rfl (hm) ?_
  refine zt (pc' := 7) ((zd_82 _).trans rfl) zm_82 rfl rfl ?_
  refine zt (pc' := 9) ((zd_82 _).trans rfl) zm_82 rfl rfl ?_
  refine zt (pc' := 12) ((zd_82 _).trans rfl) zm_82 rfl rfl ?_
  refine zt (pc' := 13) ((zd_82 _).trans rfl) zm_82 rfl rfl ?_
  refine zt (pc' := 14) ((zd_82 _).trans rfl) zm_82 rfl rfl ?_
  refine zt (pc' := 15) ((zd_82 _).trans rfl) zm_82 rfl rfl ?_
  refine zt_V (pc' := 18) ((zd_82 _).trans rfl) zm_82 rfl zq_6_45 rfl (Nat.le_of_ble_eq_true rfl) k1 zqv_6_45_4 (by decide) rfl (c_isPair0 k1 k2) ?_
  refine zt_ifT (tgt := 33) (pc' := 21) ((zd_82 _).trans rfl) zm_82 rfl rfl (zeq rfl) ?_
  refine zt (pc' := 35) ((zd_82 _).trans rfl) zm_82 rfl rfl ?_
  exact zte ((zd_82 _).trans rfl) zm_82 rfl
theorem s_many1 {w1 : zW} {za : Nat} (hm : zmet 39 91 [.ref 1, .int 1] zx4 (some (.ref za)) w1) {b : Int32} (hb : b < 0 ∨ 6 < b) : zmet 40 90 [.ref 1, .int 1, .int b] zx4 (some (.int (-2))) w1 := by
  refine ⟨_, rfl, Nat.le_of_ble_eq_true rfl, ?_⟩
  show zev 40 90 0 [some (.ref 1), some (.int 1), some (.int b), none] [] zx4 _ _
  by_cases h1 : b < 0
  · refine zt (pc' := 1) ((zd_90 _).trans rfl) zm_90 rfl rfl ?_
    refine zt (pc' := 2) ((zd_90 _).trans rfl) zm_90 rfl rfl ?_
    refine zt_V (pc' := 5) ((zd_90 _).trans rfl) zm_90 rfl zq_6_82 rfl (Nat.le_of_ble_eq_true rfl) zx4_1 zqv_6_82_4 (by decide) rfl (hm) ?_
    refine zt (pc' := 6) ((zd_90 _).trans rfl) zm_90 rfl rfl ?_
    refine zt (pc' := 7) ((zd_90 _).trans rfl) zm_90 rfl rfl ?_
    refine zt (pc' := 10) ((zd_90 _).trans rfl) zm_90 rfl rfl ?_
    refine zt (pc' := 11) ((zd_90 _).trans rfl) zm_90 rfl rfl ?_
    refine zt_ifT (tgt := 20) (pc' := 14) ((zd_90 _).trans rfl) zm_90 rfl rfl (zlt h1) ?_
    refine zt (pc' := 22) ((zd_90 _).trans rfl) zm_90 rfl rfl ?_
    exact zte ((zd_90 _).trans rfl) zm_90 rfl
  · have h2 : ¬ b < 7 := z7n (hb.resolve_left h1)
    refine zt (pc' := 1) ((zd_90 _).trans rfl) zm_90 rfl rfl ?_
    refine zt (pc' := 2) ((zd_90 _).trans rfl) zm_90 rfl rfl ?_
    refine zt_V (pc' := 5) ((zd_90 _).trans rfl) zm_90 rfl zq_6_82 rfl (Nat.le_of_ble_eq_true rfl) zx4_1 zqv_6_82_4 (by decide) rfl (hm) ?_
    refine zt (pc' := 6) ((zd_90 _).trans rfl) zm_90 rfl rfl ?_
    refine zt (pc' := 7) ((zd_90 _).trans rfl) zm_90 rfl rfl ?_
    refine zt (pc' := 10) ((zd_90 _).trans rfl) zm_90 rfl rfl ?_
    refine zt (pc' := 11) ((zd_90 _).trans rfl) zm_90 rfl rfl ?_
    refine zt_ifF (tgt := 20) (pc' := 14) ((zd_90 _).trans rfl) zm_90 rfl rfl (znlt h1) ?_
    refine zt (pc' := 15) ((zd_90 _).trans rfl) zm_90 rfl rfl ?_
    refine zt (pc' := 17) ((zd_90 _).trans rfl) zm_90 rfl rfl ?_
    refine zt_icF (tgt := 23) (pc' := 20) ((zd_90 _).trans rfl) zm_90 rfl rfl (znlt h2) ?_
    refine zt (pc' := 22) ((zd_90 _).trans rfl) zm_90 rfl rfl ?_
    exact zte ((zd_90 _).trans rfl) zm_90 rfl
theorem s_told1 {w1 : zW} {za : Nat} (hm : zmet 39 91 [.ref 1, .int 1] zx4 (some (.ref za)) w1) {b c : Int32} (hb : b < 0 ∨ 6 < b) : zmet 40 99 [.ref 1, .int 1, .int b, .int c] zx4 (some (.int (-2))) w1 := by
  refine ⟨_, rfl, Nat.le_of_ble_eq_true rfl, ?_⟩
  show zev 40 99 0 [some (.ref 1), some (.int 1), some (.int b), some (.int c), none] [] zx4 _ _
  by_cases h1 : b < 0
  · refine zt (pc' := 1) ((zd_99 _).trans rfl) zm_99 rfl rfl ?_
    refine zt (pc' := 2) ((zd_99 _).trans rfl) zm_99 rfl rfl ?_
    refine zt_V (pc' := 5) ((zd_99 _).trans rfl) zm_99 rfl zq_6_82 rfl (Nat.le_of_ble_eq_true rfl) zx4_1 zqv_6_82_4 (by decide) rfl (hm) ?_
    refine zt (pc' := 7) ((zd_99 _).trans rfl) zm_99 rfl rfl ?_
    refine zt (pc' := 9) ((zd_99 _).trans rfl) zm_99 rfl rfl ?_
    refine zt (pc' := 12) ((zd_99 _).trans rfl) zm_99 rfl rfl ?_
    refine zt (pc' := 13) ((zd_99 _).trans rfl) zm_99 rfl rfl ?_
    refine zt_ifT (tgt := 22) (pc' := 16) ((zd_99 _).trans rfl) zm_99 rfl rfl (zlt h1) ?_
    refine zt (pc' := 24) ((zd_99 _).trans rfl) zm_99 rfl rfl ?_
    exact zte ((zd_99 _).trans rfl) zm_99 rfl
  · have h2 : ¬ b < 7 := z7n (hb.resolve_left h1)
    refine zt (pc' := 1) ((zd_99 _).trans rfl) zm_99 rfl rfl ?_
    refine zt (pc' := 2) ((zd_99 _).trans rfl) zm_99 rfl rfl ?_
    refine zt_V (pc' := 5) ((zd_99 _).trans rfl) zm_99 rfl zq_6_82 rfl (Nat.le_of_ble_eq_true rfl) zx4_1 zqv_6_82_4 (by decide) rfl (hm) ?_
    refine zt (pc' := 7) ((zd_99 _).trans rfl) zm_99 rfl rfl ?_
    refine zt (pc' := 9) ((zd_99 _).trans rfl) zm_99 rfl rfl ?_
    refine zt (pc' := 12) ((zd_99 _).trans rfl) zm_99 rfl rfl ?_
    refine zt (pc' := 13) ((zd_99 _).trans rfl) zm_99 rfl rfl ?_
    refine zt_ifF (tgt := 22) (pc' := 16) ((zd_99 _).trans rfl) zm_99 rfl rfl (znlt h1) ?_
    refine zt (pc' := 17) ((zd_99 _).trans rfl) zm_99 rfl rfl ?_
    refine zt (pc' := 19) ((zd_99 _).trans rfl) zm_99 rfl rfl ?_
    refine zt_icF (tgt := 25) (pc' := 22) ((zd_99 _).trans rfl) zm_99 rfl rfl (znlt h2) ?_
    refine zt (pc' := 24) ((zd_99 _).trans rfl) zm_99 rfl rfl ?_
    exact zte ((zd_99 _).trans rfl) zm_99 rfl
theorem s_rank2 {w1 : zW} {za : Nat} (hm : zmet 39 91 [.ref 1, .int 2] zx4 (some (.ref za)) w1) (k1 : w1.1 1 = some (.inr (4, [.ref 2, .ref 7, .ref 8]))) (k2 : w1.1 2 = some (.inr (1, [.ref 3, .ref 4, .ref 5, .ref 6, .int 1, .int 0, .int 1]))) {b : Int32} (hb : b < 0 ∨ 1 <<< ((0 : Int32) &&& 31) - 1 < b) : zmet 40 93 [.ref 1, .int 2, .int b] zx4 (some (.int (-2))) w1 := by
  refine ⟨_, rfl, Nat.le_of_ble_eq_true rfl, ?_⟩
  show zev 40 93 0 [some (.ref 1), some (.int 2), some (.int b), none] [] zx4 _ _
  refine zt (pc' := 1) ((zd_93 _).trans rfl) zm_93 rfl rfl ?_
  refine zt (pc' := 2) ((zd_93 _).trans rfl) zm_93 rfl rfl ?_
  refine zt_V (pc' := 5) ((zd_93 _).trans rfl) zm_93 rfl zq_6_82 rfl (Nat.le_of_ble_eq_true rfl) zx4_1 zqv_6_82_4 (by decide) rfl (hm) ?_
  refine zt (pc' := 6) ((zd_93 _).trans rfl) zm_93 rfl rfl ?_
  refine zt (pc' := 7) ((zd_93 _).trans rfl) zm_93 rfl rfl ?_
  refine zt (pc' := 10) ((zd_93 _).trans rfl) zm_93 rfl rfl ?_
  refine zt (pc' := 11) ((zd_93 _).trans rfl) zm_93 rfl rfl ?_
  refine zt_get (pc' := 14) ((zd_93 _).trans rfl) zm_93 rfl rfl k1 (by decide) rfl ?_
  refine zt (pc' := 15) ((zd_93 _).trans rfl) zm_93 rfl rfl ?_
  refine zt_V (pc' := 18) ((zd_93 _).trans rfl) zm_93 rfl zq_6_86 rfl (Nat.le_of_ble_eq_true rfl) k2 zqv_6_86_1 (by decide) rfl (c_hasSet0 k2 hb) ?_
  refine zt_ifF (tgt := 24) (pc' := 21) ((zd_93 _).trans rfl) zm_93 rfl rfl (znne rfl) ?_
  refine zt (pc' := 23) ((zd_93 _).trans rfl) zm_93 rfl rfl ?_
  exact zte ((zd_93 _).trans rfl) zm_93 rfl
theorem s_closure2 {w1 : zW} {za : Nat} (hm : zmet 39 91 [.ref 1, .int 2] zx4 (some (.ref za)) w1) (k1 : w1.1 1 = some (.inr (4, [.ref 2, .ref 7, .ref 8]))) (k2 : w1.1 2 = some (.inr (1, [.ref 3, .ref 4, .ref 5, .ref 6, .int 1, .int 0, .int 1]))) {b : Int32} (hb : b < 0 ∨ 1 <<< ((0 : Int32) &&& 31) - 1 < b) : zmet 40 76 [.ref 1, .int 2, .int b] zx4 (some (.int (-2))) w1 := by
  refine ⟨_, rfl, Nat.le_of_ble_eq_true rfl, ?_⟩
  show zev 40 76 0 [some (.ref 1), some (.int 2), some (.int b), none] [] zx4 _ _
  refine zt (pc' := 1) ((zd_76 _).trans rfl) zm_76 rfl rfl ?_
  refine zt (pc' := 2) ((zd_76 _).trans rfl) zm_76 rfl rfl ?_
  refine zt_V (pc' := 5) ((zd_76 _).trans rfl) zm_76 rfl zq_6_82 rfl (Nat.le_of_ble_eq_true rfl) zx4_1 zqv_6_82_4 (by decide) rfl (hm) ?_
  refine zt (pc' := 6) ((zd_76 _).trans rfl) zm_76 rfl rfl ?_
  refine zt (pc' := 7) ((zd_76 _).trans rfl) zm_76 rfl rfl ?_
  refine zt (pc' := 10) ((zd_76 _).trans rfl) zm_76 rfl rfl ?_
  refine zt (pc' := 11) ((zd_76 _).trans rfl) zm_76 rfl rfl ?_
  refine zt_get (pc' := 14) ((zd_76 _).trans rfl) zm_76 rfl rfl k1 (by decide) rfl ?_
  refine zt (pc' := 15) ((zd_76 _).trans rfl) zm_76 rfl rfl ?_
  refine zt_V (pc' := 18) ((zd_76 _).trans rfl) zm_76 rfl zq_6_86 rfl (Nat.le_of_ble_eq_true rfl) k2 zqv_6_86_1 (by decide) rfl (c_hasSet0 k2 hb) ?_
  refine zt_ifF (tgt := 24) (pc' := 21) ((zd_76 _).trans rfl) zm_76 rfl rfl (znne rfl) ?_
  refine zt (pc' := 23) ((zd_76 _).trans rfl) zm_76 rfl rfl ?_
  exact zte ((zd_76 _).trans rfl) zm_76 rfl
theorem s_implied2 {w1 : zW} {za : Nat} (hm : zmet 39 91 [.ref 1, .int 2] zx4 (some (.ref za)) w1) (k1 : w1.1 1 = some (.inr (4, [.ref 2, .ref 7, .ref 8]))) (k2 : w1.1 2 = some (.inr (1, [.ref 3, .ref 4, .ref 5, .ref 6, .int 1, .int 0, .int 1]))) {a b c : Int32} : zmet 40 82 [.ref 1, .int 2, .int a, .int b, .int c] zx4 (some (.int (-2))) w1 := by
  refine ⟨_, rfl, Nat.le_of_ble_eq_true rfl, ?_⟩
  show zev 40 82 0 [some (.ref 1), some (.int 2), some (.int a), some (.int b), some (.int c), none] [] zx4 _ _
  refine zt (pc' := 1) ((zd_82 _).trans rfl) zm_82 rfl rfl ?_
  refine zt (pc' := 2) ((zd_82 _).trans rfl) zm_82 rfl rfl ?_
  refine zt_V (pc' := 5) ((zd_82 _).trans rfl) zm_82 rfl zq_6_82 rfl (Nat.le_of_ble_eq_true rfl) zx4_1 zqv_6_82_4 (by decide) rfl (hm) ?_
  refine zt (pc' := 7) ((zd_82 _).trans rfl) zm_82 rfl rfl ?_
  refine zt (pc' := 9) ((zd_82 _).trans rfl) zm_82 rfl rfl ?_
  refine zt (pc' := 12) ((zd_82 _).trans rfl) zm_82 rfl rfl ?_
  refine zt (pc' := 13) ((zd_82 _).trans rfl) zm_82 rfl rfl ?_
  refine zt (pc' := 14) ((zd_82 _).trans rfl) zm_82 rfl rfl ?_
  refine zt (pc' := 15) ((zd_82 _).trans rfl) zm_82 rfl rfl ?_
  refine zt_V (pc' := 18) ((zd_82 _).trans rfl) zm_82 rfl zq_6_45 rfl (Nat.le_of_ble_eq_true rfl) k1 zqv_6_45_4 (by decide) rfl (c_isPair0 k1 k2) ?_
  refine zt_ifT (tgt := 33) (pc' := 21) ((zd_82 _).trans rfl) zm_82 rfl rfl (zeq rfl) ?_
  refine zt (pc' := 35) ((zd_82 _).trans rfl) zm_82 rfl rfl ?_
  exact zte ((zd_82 _).trans rfl) zm_82 rfl
theorem s_many2 {w1 : zW} {za : Nat} (hm : zmet 39 91 [.ref 1, .int 2] zx4 (some (.ref za)) w1) {b : Int32} (hb : b < 0 ∨ 6 < b) : zmet 40 90 [.ref 1, .int 2, .int b] zx4 (some (.int (-2))) w1 := by
  refine ⟨_, rfl, Nat.le_of_ble_eq_true rfl, ?_⟩
  show zev 40 90 0 [some (.ref 1), some (.int 2), some (.int b), none] [] zx4 _ _
  by_cases h1 : b < 0
  · refine zt (pc' := 1) ((zd_90 _).trans rfl) zm_90 rfl rfl ?_
    refine zt (pc' := 2) ((zd_90 _).trans rfl) zm_90 rfl rfl ?_
    refine zt_V (pc' := 5) ((zd_90 _).trans rfl) zm_90 rfl zq_6_82 rfl (Nat.le_of_ble_eq_true rfl) zx4_1 zqv_6_82_4 (by decide) rfl (hm) ?_
    refine zt (pc' := 6) ((zd_90 _).trans rfl) zm_90 rfl rfl ?_
    refine zt (pc' := 7) ((zd_90 _).trans rfl) zm_90 rfl rfl ?_
    refine zt (pc' := 10) ((zd_90 _).trans rfl) zm_90 rfl rfl ?_
    refine zt (pc' := 11) ((zd_90 _).trans rfl) zm_90 rfl rfl ?_
    refine zt_ifT (tgt := 20) (pc' := 14) ((zd_90 _).trans rfl) zm_90 rfl rfl (zlt h1) ?_
    refine zt (pc' := 22) ((zd_90 _).trans rfl) zm_90 rfl rfl ?_
    exact zte ((zd_90 _).trans rfl) zm_90 rfl
  · have h2 : ¬ b < 7 := z7n (hb.resolve_left h1)
    refine zt (pc' := 1) ((zd_90 _).trans rfl) zm_90 rfl rfl ?_
    refine zt (pc' := 2) ((zd_90 _).trans rfl) zm_90 rfl rfl ?_
    refine zt_V (pc' := 5) ((zd_90 _).trans rfl) zm_90 rfl zq_6_82 rfl (Nat.le_of_ble_eq_true rfl) zx4_1 zqv_6_82_4 (by decide) rfl (hm) ?_
    refine zt (pc' := 6) ((zd_90 _).trans rfl) zm_90 rfl rfl ?_
    refine zt (pc' := 7) ((zd_90 _).trans rfl) zm_90 rfl rfl ?_
    refine zt (pc' := 10) ((zd_90 _).trans rfl) zm_90 rfl rfl ?_
    refine zt (pc' := 11) ((zd_90 _).trans rfl) zm_90 rfl rfl ?_
    refine zt_ifF (tgt := 20) (pc' := 14) ((zd_90 _).trans rfl) zm_90 rfl rfl (znlt h1) ?_
    refine zt (pc' := 15) ((zd_90 _).trans rfl) zm_90 rfl rfl ?_
    refine zt (pc' := 17) ((zd_90 _).trans rfl) zm_90 rfl rfl ?_
    refine zt_icF (tgt := 23) (pc' := 20) ((zd_90 _).trans rfl) zm_90 rfl rfl (znlt h2) ?_
    refine zt (pc' := 22) ((zd_90 _).trans rfl) zm_90 rfl rfl ?_
    exact zte ((zd_90 _).trans rfl) zm_90 rfl
theorem s_told2 {w1 : zW} {za : Nat} (hm : zmet 39 91 [.ref 1, .int 2] zx4 (some (.ref za)) w1) {b c : Int32} (hb : b < 0 ∨ 6 < b) : zmet 40 99 [.ref 1, .int 2, .int b, .int c] zx4 (some (.int (-2))) w1 := by
  refine ⟨_, rfl, Nat.le_of_ble_eq_true rfl, ?_⟩
  show zev 40 99 0 [some (.ref 1), some (.int 2), some (.int b), some (.int c), none] [] zx4 _ _
  by_cases h1 : b < 0
  · refine zt (pc' := 1) ((zd_99 _).trans rfl) zm_99 rfl rfl ?_
    refine zt (pc' := 2) ((zd_99 _).trans rfl) zm_99 rfl rfl ?_
    refine zt_V (pc' := 5) ((zd_99 _).trans rfl) zm_99 rfl zq_6_82 rfl (Nat.le_of_ble_eq_true rfl) zx4_1 zqv_6_82_4 (by decide) rfl (hm) ?_
    refine zt (pc' := 7) ((zd_99 _).trans rfl) zm_99 rfl rfl ?_
    refine zt (pc' := 9) ((zd_99 _).trans rfl) zm_99 rfl rfl ?_
    refine zt (pc' := 12) ((zd_99 _).trans rfl) zm_99 rfl rfl ?_
    refine zt (pc' := 13) ((zd_99 _).trans rfl) zm_99 rfl rfl ?_
    refine zt_ifT (tgt := 22) (pc' := 16) ((zd_99 _).trans rfl) zm_99 rfl rfl (zlt h1) ?_
    refine zt (pc' := 24) ((zd_99 _).trans rfl) zm_99 rfl rfl ?_
    exact zte ((zd_99 _).trans rfl) zm_99 rfl
  · have h2 : ¬ b < 7 := z7n (hb.resolve_left h1)
    refine zt (pc' := 1) ((zd_99 _).trans rfl) zm_99 rfl rfl ?_
    refine zt (pc' := 2) ((zd_99 _).trans rfl) zm_99 rfl rfl ?_
    refine zt_V (pc' := 5) ((zd_99 _).trans rfl) zm_99 rfl zq_6_82 rfl (Nat.le_of_ble_eq_true rfl) zx4_1 zqv_6_82_4 (by decide) rfl (hm) ?_
    refine zt (pc' := 7) ((zd_99 _).trans rfl) zm_99 rfl rfl ?_
    refine zt (pc' := 9) ((zd_99 _).trans rfl) zm_99 rfl rfl ?_
    refine zt (pc' := 12) ((zd_99 _).trans rfl) zm_99 rfl rfl ?_
    refine zt (pc' := 13) ((zd_99 _).trans rfl) zm_99 rfl rfl ?_
    refine zt_ifF (tgt := 22) (pc' := 16) ((zd_99 _).trans rfl) zm_99 rfl rfl (znlt h1) ?_
    refine zt (pc' := 17) ((zd_99 _).trans rfl) zm_99 rfl rfl ?_
    refine zt (pc' := 19) ((zd_99 _).trans rfl) zm_99 rfl rfl ?_
    refine zt_icF (tgt := 25) (pc' := 22) ((zd_99 _).trans rfl) zm_99 rfl rfl (znlt h2) ?_
    refine zt (pc' := 24) ((zd_99 _).trans rfl) zm_99 rfl rfl ?_
    exact zte ((zd_99 _).trans rfl) zm_99 rfl
theorem p_rigid (v : Int32) : zP 94 158 [.int v] := by
  obtain ⟨p, ms, hM⟩ := zx4_9
  by_cases h : v < 0 ∨ 2 < v
  · exact zP_same (s_rigid zx4_1 h) (t_rigid hM h)
  · rcases z012 h with e | e | e <;> subst e
    · exact zc_rigid_0
    · exact zc_rigid_1
    · exact zc_rigid_2
theorem p_lacks (v : Int32) : zP 87 142 [.int v] := by
  obtain ⟨p, ms, hM⟩ := zx4_9
  by_cases h : v < 0 ∨ 2 < v
  · exact zP_same (s_lacks zx4_1 h) (t_lacks hM h)
  · rcases z012 h with e | e | e <;> subst e
    · exact zc_lacks_0
    · exact zc_lacks_1
    · exact zc_lacks_2
theorem p_spare (v : Int32) : zP 96 160 [.int v] := by
  obtain ⟨p, ms, hM⟩ := zx4_9
  by_cases h : v < 0 ∨ 2 < v
  · exact zP_same (s_spare zx4_1 h) (t_spare hM h)
  · rcases z012 h with e | e | e <;> subst e
    · exact zc_spare_0
    · exact zc_spare_1
    · exact zc_spare_2
theorem p_rank (v b : Int32) : zP 93 154 [.int v, .int b] := by
  obtain ⟨p, ms, hM⟩ := zx4_9
  by_cases h : v < 0 ∨ 2 < v
  · exact zP_same (s_rank zx4_1 h) (t_rank hM h)
  · rcases z012 h with e | e | e <;> subst e
    · by_cases hb : b < 0 ∨ 1 <<< ((0 : Int32) &&& 31) - 1 < b
      · obtain ⟨p, ms, hM⟩ := zy0_9
        exact zP_to (s_rank0 zy0_m zy0_1 zy0_2 hb) (t_rank0 hM hb) zy0_r
      · have e := z0s hb
        subst e
        exact zc_rank_0_0
    · by_cases hb : b < 0 ∨ 1 <<< ((0 : Int32) &&& 31) - 1 < b
      · obtain ⟨p, ms, hM⟩ := zy1_9
        exact zP_to (s_rank1 zy1_m zy1_1 zy1_2 hb) (t_rank1 hM hb) zy1_r
      · have e := z0s hb
        subst e
        exact zc_rank_1_0
    · by_cases hb : b < 0 ∨ 1 <<< ((0 : Int32) &&& 31) - 1 < b
      · obtain ⟨p, ms, hM⟩ := zy2_9
        exact zP_to (s_rank2 zy2_m zy2_1 zy2_2 hb) (t_rank2 hM hb) zy2_r
      · have e := z0s hb
        subst e
        exact zc_rank_2_0
theorem p_closure (v b : Int32) : zP 76 111 [.int v, .int b] := by
  obtain ⟨p, ms, hM⟩ := zx4_9
  by_cases h : v < 0 ∨ 2 < v
  · exact zP_same (s_closure zx4_1 h) (t_closure hM h)
  · rcases z012 h with e | e | e <;> subst e
    · by_cases hb : b < 0 ∨ 1 <<< ((0 : Int32) &&& 31) - 1 < b
      · obtain ⟨p, ms, hM⟩ := zy0_9
        exact zP_to (s_closure0 zy0_m zy0_1 zy0_2 hb) (t_closure0 hM hb) zy0_r
      · have e := z0s hb
        subst e
        exact zc_closure_0_0
    · by_cases hb : b < 0 ∨ 1 <<< ((0 : Int32) &&& 31) - 1 < b
      · obtain ⟨p, ms, hM⟩ := zy1_9
        exact zP_to (s_closure1 zy1_m zy1_1 zy1_2 hb) (t_closure1 hM hb) zy1_r
      · have e := z0s hb
        subst e
        exact zc_closure_1_0
    · by_cases hb : b < 0 ∨ 1 <<< ((0 : Int32) &&& 31) - 1 < b
      · obtain ⟨p, ms, hM⟩ := zy2_9
        exact zP_to (s_closure2 zy2_m zy2_1 zy2_2 hb) (t_closure2 hM hb) zy2_r
      · have e := z0s hb
        subst e
        exact zc_closure_2_0
theorem p_implied (v a b c : Int32) : zP 82 124 [.int v, .int a, .int b, .int c] := by
  obtain ⟨p, ms, hM⟩ := zx4_9
  by_cases h : v < 0 ∨ 2 < v
  · exact zP_same (s_implied zx4_1 h) (t_implied hM h)
  · rcases z012 h with e | e | e <;> subst e
    · obtain ⟨p, ms, hM⟩ := zy0_9
      exact zP_to (s_implied0 zy0_m zy0_1 zy0_2) (t_implied0 hM) zy0_r
    · obtain ⟨p, ms, hM⟩ := zy1_9
      exact zP_to (s_implied1 zy1_m zy1_1 zy1_2) (t_implied1 hM) zy1_r
    · obtain ⟨p, ms, hM⟩ := zy2_9
      exact zP_to (s_implied2 zy2_m zy2_1 zy2_2) (t_implied2 hM) zy2_r
theorem p_many (v b : Int32) : zP 90 144 [.int v, .int b] := by
  obtain ⟨p, ms, hM⟩ := zx4_9
  by_cases h : v < 0 ∨ 2 < v
  · exact zP_same (s_many zx4_1 h) (t_many hM h)
  · rcases z012 h with e | e | e <;> subst e
    · by_cases hb : b < 0 ∨ 6 < b
      · obtain ⟨p, ms, hM⟩ := zy0_9
        exact zP_to (s_many0 zy0_m hb) (t_many0 hM hb) zy0_r
      · rcases z06 hb with e | e | e | e | e | e | e <;> subst e
        · exact zc_many_0_0
        · exact zc_many_0_1
        · exact zc_many_0_2
        · exact zc_many_0_3
        · exact zc_many_0_4
        · exact zc_many_0_5
        · exact zc_many_0_6
    · by_cases hb : b < 0 ∨ 6 < b
      · obtain ⟨p, ms, hM⟩ := zy1_9
        exact zP_to (s_many1 zy1_m hb) (t_many1 hM hb) zy1_r
      · rcases z06 hb with e | e | e | e | e | e | e <;> subst e
        · exact zc_many_1_0
        · exact zc_many_1_1
        · exact zc_many_1_2
        · exact zc_many_1_3
        · exact zc_many_1_4
        · exact zc_many_1_5
        · exact zc_many_1_6
    · by_cases hb : b < 0 ∨ 6 < b
      · obtain ⟨p, ms, hM⟩ := zy2_9
        exact zP_to (s_many2 zy2_m hb) (t_many2 hM hb) zy2_r
      · rcases z06 hb with e | e | e | e | e | e | e <;> subst e
        · exact zc_many_2_0
        · exact zc_many_2_1
        · exact zc_many_2_2
        · exact zc_many_2_3
        · exact zc_many_2_4
        · exact zc_many_2_5
        · exact zc_many_2_6
theorem p_begin (v : Int32) : zP 74 106 [.int v] := by
  by_cases h : v < 1 ∨ 7 < v
  · exact zP_same (s_begin h) (t_begin h)
  · rcases z17 h with e | e | e | e | e | e | e <;> subst e
    · exact zc_begin_1
    · exact zc_begin_2
    · exact zc_begin_3
    · exact zc_begin_4
    · exact zc_begin_5
    · exact zc_begin_6
    · exact zc_begin_7
theorem p_sign (a b : Int32) : zP 95 159 [.int a, .int b] := by
  obtain ⟨p, ms, hM⟩ := zx4_9
  exact zP_same (s_sign zx4_1 zx4_2) (t_sign hM)
theorem p_end (a b : Int32) : zP 80 117 [.int a, .int b] := by
  obtain ⟨p, ms, hM⟩ := zx4_9
  exact zP_same (s_end zx4_1 zx4_2) (t_end hM)
theorem p_bar (a b : Int32) : zP 73 104 [.int a, .int b] := by
  obtain ⟨p, ms, hM⟩ := zx4_9
  exact zP_same (s_bar zx4_1 zx4_2) (t_bar hM)
theorem p_unbar : zP 100 168 [] := zc_unbar
theorem p_oneShape : zP 92 147 [] := zc_oneShape
