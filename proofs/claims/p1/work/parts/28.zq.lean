/-! at, count, holds, stressed (printed by wip/gen/ref3.py) -/
theorem zm_72 : zMt[72]? = some (yX6_at, cX6_at, 3, (some .int), 6, false) := rfl
theorem zd_72 (pc : Nat) : zdec 72 pc = zdl_72.lookup pc := rfl
theorem zm_79 : zMt[79]? = some (yX6_count, cX6_count, 2, (some .int), 6, false) := rfl
theorem zd_79 (pc : Nat) : zdec 79 pc = zdl_79.lookup pc := rfl
theorem zm_81 : zMt[81]? = some (yX6_holds, cX6_holds, 4, (some .int), 6, false) := rfl
theorem zd_81 (pc : Nat) : zdec 81 pc = zdl_81.lookup pc := rfl
theorem zm_98 : zMt[98]? = some (yX6_stressed, cX6_stressed, 6, (some .int), 6, false) := rfl
theorem zd_98 (pc : Nat) : zdec 98 pc = zdl_98.lookup pc := rfl
theorem zm_103 : zMt[103]? = some (yX7_at, cX7_at, 3, (some .int), 7, false) := rfl
theorem zd_103 (pc : Nat) : zdec 103 pc = zdl_103.lookup pc := rfl
theorem zm_115 : zMt[115]? = some (yX7_count, cX7_count, 4, (some .int), 7, false) := rfl
theorem zd_115 (pc : Nat) : zdec 115 pc = zdl_115.lookup pc := rfl
theorem zm_162 : zMt[162]? = some (yX7_stressed, cX7_stressed, 4, (some .int), 7, false) := rfl
theorem zd_162 (pc : Nat) : zdec 162 pc = zdl_162.lookup pc := rfl
theorem zq_7_191 : zcl 7 191 = some (3, 5, 128, 2) := by decide +kernel
theorem zqv_7_191_5 : zclv 7 191 5 = some (3, 5, 128, 2) := by decide +kernel
theorem z10 {v : Int32} (h : v < 0 ∨ (1 : Int32) ≤ v) : v < 0 ∨ (1 : Int32) - 1 < v := by
  refine h.imp id fun h => ?_
  rw [Int32.le_iff_toInt_le] at h
  rw [Int32.lt_iff_toInt_lt]
  have e0 : ((1 : Int32) - 1).toInt = 0 := rfl
  have e1 : (1 : Int32).toInt = 1 := rfl
  omega
theorem z3n {b : Int32} (h : 2 < b) : ¬ b < 3 := by
  rw [Int32.lt_iff_toInt_lt] at h ⊢
  have e6 : (2 : Int32).toInt = 2 := rfl
  have e7 : (3 : Int32).toInt = 3 := rfl
  omega
theorem s_at0 {d : Nat} {w : zW} {v b : Int32} {q1 q2 : Value} (hX : w.1 1 = some (.inr (4, [.ref 2, q1, q2]))) {p0 p1 p2 p3 : Value} {ve : Int32} (hF : w.1 2 = some (.inr (1, [p0, p1, p2, p3, .int 1, .int 0, .int ve]))) (h : v < 0 ∨ (1 : Int32) ≤ v) : zmet (d + 1) 72 [.ref 1, .int v, .int b] w (some (.int (-2))) w := by
  refine ⟨_, rfl, Nat.le_of_ble_eq_true rfl, ?_⟩
  show zev (d + 1) 72 0 [some (.ref 1), some (.int v), some (.int b)] [] w _ _
  refine zt (pc' := 1) ((zd_72 _).trans rfl) zm_72 rfl rfl ?_
  refine zt_get (pc' := 4) ((zd_72 _).trans rfl) zm_72 rfl rfl hX (by decide) rfl ?_
  refine zt (pc' := 5) ((zd_72 _).trans rfl) zm_72 rfl rfl ?_
  refine zt_V (pc' := 8) ((zd_72 _).trans rfl) zm_72 rfl zq_6_34 rfl (Nat.le_of_ble_eq_true rfl) hF zqv_6_34_1 (by decide) rfl (c_hasJoint0 hF h) ?_
  refine zt_ifT (tgt := 20) (pc' := 11) ((zd_72 _).trans rfl) zm_72 rfl rfl (zeq rfl) ?_
  refine zt (pc' := 22) ((zd_72 _).trans rfl) zm_72 rfl rfl ?_
  exact zte ((zd_72 _).trans rfl) zm_72 rfl
theorem s_at1 {d : Nat} {w : zW} {v b : Int32} {q1 q2 : Value} (hX : w.1 1 = some (.inr (4, [.ref 2, q1, q2]))) {p0 p1 p2 p3 : Value} {ve : Int32} (hF : w.1 2 = some (.inr (1, [p0, p1, p2, p3, .int 1, .int 0, .int ve]))) (h1 : ¬ v < 0) (h2 : ¬ (1 : Int32) ≤ v) (hb : b < 0 ∨ 2 < b) : zmet (d + 1) 72 [.ref 1, .int v, .int b] w (some (.int (-2))) w := by
  refine ⟨_, rfl, Nat.le_of_ble_eq_true rfl, ?_⟩
  show zev (d + 1) 72 0 [some (.ref 1), some (.int v), some (.int b)] [] w _ _
  by_cases k1 : b < 0
  · refine zt (pc' := 1) ((zd_72 _).trans rfl) zm_72 rfl rfl ?_
    refine zt_get (pc' := 4) ((zd_72 _).trans rfl) zm_72 rfl rfl hX (by decide) rfl ?_
    refine zt (pc' := 5) ((zd_72 _).trans rfl) zm_72 rfl rfl ?_
    refine zt_V (pc' := 8) ((zd_72 _).trans rfl) zm_72 rfl zq_6_34 rfl (Nat.le_of_ble_eq_true rfl) hF zqv_6_34_1 (by decide) rfl (c_hasJoint1 hF h1 h2) ?_
    refine zt_ifF (tgt := 20) (pc' := 11) ((zd_72 _).trans rfl) zm_72 rfl rfl (zneq (by decide)) ?_
    refine zt (pc' := 12) ((zd_72 _).trans rfl) zm_72 rfl rfl ?_
    refine zt_ifT (tgt := 20) (pc' := 15) ((zd_72 _).trans rfl) zm_72 rfl rfl (zlt k1) ?_
    refine zt (pc' := 22) ((zd_72 _).trans rfl) zm_72 rfl rfl ?_
    exact zte ((zd_72 _).trans rfl) zm_72 rfl
  · have k2 : ¬ b < 3 := z3n (hb.resolve_left k1)
    refine zt (pc' := 1) ((zd_72 _).trans rfl) zm_72 rfl rfl ?_
    refine zt_get (pc' := 4) ((zd_72 _).trans rfl) zm_72 rfl rfl hX (by decide) rfl ?_
    refine zt (pc' := 5) ((zd_72 _).trans rfl) zm_72 rfl rfl ?_
    refine zt_V (pc' := 8) ((zd_72 _).trans rfl) zm_72 rfl zq_6_34 rfl (Nat.le_of_ble_eq_true rfl) hF zqv_6_34_1 (by decide) rfl (c_hasJoint1 hF h1 h2) ?_
    refine zt_ifF (tgt := 20) (pc' := 11) ((zd_72 _).trans rfl) zm_72 rfl rfl (zneq (by decide)) ?_
    refine zt (pc' := 12) ((zd_72 _).trans rfl) zm_72 rfl rfl ?_
    refine zt_ifF (tgt := 20) (pc' := 15) ((zd_72 _).trans rfl) zm_72 rfl rfl (znlt k1) ?_
    refine zt (pc' := 16) ((zd_72 _).trans rfl) zm_72 rfl rfl ?_
    refine zt (pc' := 17) ((zd_72 _).trans rfl) zm_72 rfl rfl ?_
    refine zt_icF (tgt := 23) (pc' := 20) ((zd_72 _).trans rfl) zm_72 rfl rfl (znlt k2) ?_
    refine zt (pc' := 22) ((zd_72 _).trans rfl) zm_72 rfl rfl ?_
    exact zte ((zd_72 _).trans rfl) zm_72 rfl
theorem t_at0 {d : Nat} {w : zW} {v b : Int32} {ms : List Value} {pl : Value} (hM : w.1 9 = some (.inr (5, .int 1 :: pl :: .int 0 :: ms))) (h : v < 0 ∨ (1 : Int32) - 1 < v) : zmet (d + 2) 103 [.ref 9, .int v, .int b] w (some (.int (-2))) w := by
  refine ⟨_, rfl, Nat.le_of_ble_eq_true rfl, ?_⟩
  show zev (d + 2) 103 0 [some (.ref 9), some (.int v), some (.int b)] [] w _ _
  refine zt (pc' := 1) ((zd_103 _).trans rfl) zm_103 rfl rfl ?_
  refine zt (pc' := 2) ((zd_103 _).trans rfl) zm_103 rfl rfl ?_
  refine zt_V (pc' := 5) ((zd_103 _).trans rfl) zm_103 rfl zq_7_77 rfl (Nat.le_of_ble_eq_true rfl) hM zqv_7_77_5 (by decide) rfl (c_isJoint0 hM h) ?_
  refine zt_ifT (tgt := 30) (pc' := 8) ((zd_103 _).trans rfl) zm_103 rfl rfl (zeq rfl) ?_
  refine zt (pc' := 32) ((zd_103 _).trans rfl) zm_103 rfl rfl ?_
  exact zte ((zd_103 _).trans rfl) zm_103 rfl
theorem t_at1 {d : Nat} {w : zW} {v b : Int32} {ms : List Value} {pl : Value} (hM : w.1 9 = some (.inr (5, .int 1 :: pl :: .int 0 :: ms))) (h1 : ¬ v < 0) (h2 : ¬ (1 : Int32) - 1 < v) (hb : b < 0 ∨ 2 < b) : zmet (d + 2) 103 [.ref 9, .int v, .int b] w (some (.int (-2))) w := by
  refine ⟨_, rfl, Nat.le_of_ble_eq_true rfl, ?_⟩
  show zev (d + 2) 103 0 [some (.ref 9), some (.int v), some (.int b)] [] w _ _
  refine zt (pc' := 1) ((zd_103 _).trans rfl) zm_103 rfl rfl ?_
  refine zt (pc' := 2) ((zd_103 _).trans rfl) zm_103 rfl rfl ?_
  refine zt_V (pc' := 5) ((zd_103 _).trans rfl) zm_103 rfl zq_7_77 rfl (Nat.le_of_ble_eq_true rfl) hM zqv_7_77_5 (by decide) rfl (c_isJoint1 hM h1 h2) ?_
  refine zt_ifF (tgt := 30) (pc' := 8) ((zd_103 _).trans rfl) zm_103 rfl rfl (zneq (by decide)) ?_
  refine zt (pc' := 9) ((zd_103 _).trans rfl) zm_103 rfl rfl ?_
  refine zt (pc' := 10) ((zd_103 _).trans rfl) zm_103 rfl rfl ?_
  refine zt (pc' := 11) ((zd_103 _).trans rfl) zm_103 rfl rfl ?_
  refine zt_S (pc' := 14) ((zd_103 _).trans rfl) zm_103 rfl zq_7_70 (Nat.le_of_ble_eq_true rfl) (Nat.le_of_ble_eq_true rfl) rfl (c_isIn0 hb) ?_
  refine zt_ifT (tgt := 30) (pc' := 17) ((zd_103 _).trans rfl) zm_103 rfl rfl (zeq rfl) ?_
  refine zt (pc' := 32) ((zd_103 _).trans rfl) zm_103 rfl rfl ?_
  exact zte ((zd_103 _).trans rfl) zm_103 rfl
theorem p_at (v b : Int32) : zP 72 103 [.int v, .int b] := by
  obtain ⟨p, ms, hM⟩ := zx4_9
  by_cases h : v < 0 ∨ (1 : Int32) ≤ v
  · exact zP_same (s_at0 zx4_1 zx4_2 h) (t_at0 hM (z10 h))
  · have h1 : ¬ v < 0 := fun k => h (Or.inl k)
    have h2 : ¬ (1 : Int32) ≤ v := fun k => h (Or.inr k)
    by_cases hb : b < 0 ∨ 2 < b
    · have e := z01 h1 h2
      subst e
      exact zP_same (s_at1 zx4_1 zx4_2 h1 h2 hb) (t_at1 hM (by decide) (by decide) hb)
    · have e := z01 h1 h2
      subst e
      rcases z012 hb with e | e | e <;> subst e
      · exact zc_at_0_0
      · exact zc_at_0_1
      · exact zc_at_0_2
theorem zts_d {x : Int32} {dd lo hi : Int} {offs : Array Int} {pc tgt nL len : Nat} {L : zL} {r : List Value} (h : x.toInt < lo ∨ hi < x.toInt) (ht : zJ pc dd L r = some (tgt, L, r)) : zA nL (.tableswitch dd lo hi offs) len pc L (.int x :: r) = some (tgt, L, r) := by
  simp only [zA, zts, if_pos h]
  exact ht
theorem z03 {v : Int32} (h : ¬ (v < 0 ∨ 3 < v)) : v = 0 ∨ v = 1 ∨ v = 2 ∨ v = 3 := by
  rw [Int32.lt_iff_toInt_lt, Int32.lt_iff_toInt_lt] at h
  have e0 : (0 : Int32).toInt = 0 := rfl
  have e2 : (3 : Int32).toInt = 3 := rfl
  have e : v.toInt = 0 ∨ v.toInt = 1 ∨ v.toInt = 2 ∨ v.toInt = 3 := by omega
  rcases e with e | e | e | e
  · exact Or.inl (Int32.toInt_inj.mp e)
  · exact Or.inr (Or.inl (Int32.toInt_inj.mp e))
  · exact Or.inr (Or.inr (Or.inl (Int32.toInt_inj.mp e)))
  · exact Or.inr (Or.inr (Or.inr (Int32.toInt_inj.mp e)))
theorem s_count {d : Nat} {w : zW} {v : Int32} (h : v.toInt < 0 ∨ 3 < v.toInt) : zmet (d) 79 [.ref 1, .int v] w (some (.int (-2))) w := by
  refine ⟨_, rfl, Nat.le_of_ble_eq_true rfl, ?_⟩
  show zev (d) 79 0 [some (.ref 1), some (.int v)] [] w _ _
  refine zt (pc' := 1) ((zd_79 _).trans rfl) zm_79 rfl rfl ?_
  refine zt (pc' := 66) ((zd_79 _).trans rfl) zm_79 rfl (zts_d h rfl) ?_
  refine zt (pc' := 68) ((zd_79 _).trans rfl) zm_79 rfl rfl ?_
  exact zte ((zd_79 _).trans rfl) zm_79 rfl
theorem t_count {d : Nat} {w : zW} {v : Int32} (h : v < 0 ∨ 3 < v) : zmet (d + 1) 115 [.ref 9, .int v] w (some (.int (-2))) w := by
  refine ⟨_, rfl, Nat.le_of_ble_eq_true rfl, ?_⟩
  show zev (d + 1) 115 0 [some (.ref 9), some (.int v), none, none] [] w _ _
  refine zt (pc' := 1) ((zd_115 _).trans rfl) zm_115 rfl rfl ?_
  refine zt (pc' := 2) ((zd_115 _).trans rfl) zm_115 rfl rfl ?_
  refine zt (pc' := 3) ((zd_115 _).trans rfl) zm_115 rfl rfl ?_
  refine zt_S (pc' := 6) ((zd_115 _).trans rfl) zm_115 rfl zq_7_70 (Nat.le_of_ble_eq_true rfl) (Nat.le_of_ble_eq_true rfl) rfl (c_isIn0 h) ?_
  refine zt_ifF (tgt := 12) (pc' := 9) ((zd_115 _).trans rfl) zm_115 rfl rfl (znne rfl) ?_
  refine zt (pc' := 11) ((zd_115 _).trans rfl) zm_115 rfl rfl ?_
  exact zte ((zd_115 _).trans rfl) zm_115 rfl
theorem p_count (v : Int32) : zP 79 115 [.int v] := by
  by_cases h : v < 0 ∨ 3 < v
  · refine zP_same (s_count (h.imp (fun h => ?_) fun h => ?_)) (t_count h)
    · rw [Int32.lt_iff_toInt_lt] at h
      exact h
    · rw [Int32.lt_iff_toInt_lt] at h
      exact h
  · rcases z03 h with e | e | e | e <;> subst e
    · exact zc_count_0
    · exact zc_count_1
    · exact zc_count_2
    · exact zc_count_3
theorem s_holds {d : Nat} {w : zW} {v : Int32} {q1 q2 : Value} (hX : w.1 1 = some (.inr (4, [.ref 2, q1, q2]))) (h : v < 0 ∨ 2 < v) : zmet (d + 1) 81 [.ref 1, .int v] w (some (.int (-2))) w := by
  refine ⟨_, rfl, Nat.le_of_ble_eq_true rfl, ?_⟩
  show zev (d + 1) 81 0 [some (.ref 1), some (.int v), none, none] [] w _ _
  refine zt (pc' := 1) ((zd_81 _).trans rfl) zm_81 rfl rfl ?_
  refine zt (pc' := 2) ((zd_81 _).trans rfl) zm_81 rfl rfl ?_
  refine zt_V (pc' := 5) ((zd_81 _).trans rfl) zm_81 rfl zq_6_82 rfl (Nat.le_of_ble_eq_true rfl) hX zqv_6_82_4 (by decide) rfl (c_matroidOf0 (z3 h)) ?_
  refine zt (pc' := 6) ((zd_81 _).trans rfl) zm_81 rfl rfl ?_
  refine zt (pc' := 7) ((zd_81 _).trans rfl) zm_81 rfl rfl ?_
  refine zev_H (pc' := 10) zm_81 (zdec_ok zm_81 ((zd_81 _).trans rfl)) rfl rfl rfl ?_
  refine zt_ifT (tgt := 38) (pc' := 13) ((zd_81 _).trans rfl) zm_81 rfl rfl (zeq rfl) ?_
  refine zt (pc' := 40) ((zd_81 _).trans rfl) zm_81 rfl rfl ?_
  exact zte ((zd_81 _).trans rfl) zm_81 rfl
theorem p_holds (v : Int32) : zP 81 123 [.int v] := by
  obtain ⟨p, ms, hM⟩ := zx4_9
  by_cases h : v < 0 ∨ 2 < v
  · exact zP_same (s_holds zx4_1 h) (t_holds hM h)
  · rcases z012 h with e | e | e <;> subst e
    · exact zc_holds_0
    · exact zc_holds_1
    · exact zc_holds_2
theorem s_stressed {d : Nat} {w : zW} {v c b : Int32} {q1 q2 : Value} (hX : w.1 1 = some (.inr (4, [.ref 2, q1, q2]))) {p0 p1 p2 p3 : Value} {ve : Int32} (hF : w.1 2 = some (.inr (1, [p0, p1, p2, p3, .int 1, .int 0, .int ve]))) : zmet (d + 2) 98 [.ref 1, .int v, .int c, .int b] w (some (.int (-2))) w := by
  refine ⟨_, rfl, Nat.le_of_ble_eq_true rfl, ?_⟩
  show zev (d + 2) 98 0 [some (.ref 1), some (.int v), some (.int c), some (.int b), none, none] [] w _ _
  by_cases hc : c < 0 ∨ 1 <<< ((0 : Int32) &&& 31) - 1 < c
  · refine zt (pc' := 1) ((zd_98 _).trans rfl) zm_98 rfl rfl ?_
    refine zt_get (pc' := 4) ((zd_98 _).trans rfl) zm_98 rfl rfl hX (by decide) rfl ?_
    refine zt (pc' := 5) ((zd_98 _).trans rfl) zm_98 rfl rfl ?_
    refine zt_V (pc' := 8) ((zd_98 _).trans rfl) zm_98 rfl zq_6_86 rfl (Nat.le_of_ble_eq_true rfl) hF zqv_6_86_1 (by decide) rfl (c_hasSet0 hF hc) ?_
    refine zt_ifT (tgt := 22) (pc' := 11) ((zd_98 _).trans rfl) zm_98 rfl rfl (zeq rfl) ?_
    refine zt (pc' := 24) ((zd_98 _).trans rfl) zm_98 rfl rfl ?_
    exact zte ((zd_98 _).trans rfl) zm_98 rfl
  · have h1 : ¬ c < 0 := fun k => hc (Or.inl k)
    have h2 : ¬ 1 <<< ((0 : Int32) &&& 31) - 1 < c := fun k => hc (Or.inr k)
    refine zt (pc' := 1) ((zd_98 _).trans rfl) zm_98 rfl rfl ?_
    refine zt_get (pc' := 4) ((zd_98 _).trans rfl) zm_98 rfl rfl hX (by decide) rfl ?_
    refine zt (pc' := 5) ((zd_98 _).trans rfl) zm_98 rfl rfl ?_
    refine zt_V (pc' := 8) ((zd_98 _).trans rfl) zm_98 rfl zq_6_86 rfl (Nat.le_of_ble_eq_true rfl) hF zqv_6_86_1 (by decide) rfl (c_hasSet1 hF h1 h2) ?_
    refine zt_ifF (tgt := 22) (pc' := 11) ((zd_98 _).trans rfl) zm_98 rfl rfl (zneq (by decide)) ?_
    refine zt (pc' := 12) ((zd_98 _).trans rfl) zm_98 rfl rfl ?_
    refine zt_get (pc' := 15) ((zd_98 _).trans rfl) zm_98 rfl rfl hX (by decide) rfl ?_
    refine zt (pc' := 16) ((zd_98 _).trans rfl) zm_98 rfl rfl ?_
    refine zt_V (pc' := 19) ((zd_98 _).trans rfl) zm_98 rfl zq_6_63 rfl (Nat.le_of_ble_eq_true rfl) hF zqv_6_63_1 (by decide) rfl (c_hasBar0 hF zany) ?_
    refine zt_ifF (tgt := 25) (pc' := 22) ((zd_98 _).trans rfl) zm_98 rfl rfl (znne rfl) ?_
    refine zt (pc' := 24) ((zd_98 _).trans rfl) zm_98 rfl rfl ?_
    exact zte ((zd_98 _).trans rfl) zm_98 rfl
theorem t_stressed {d : Nat} {w : zW} {v c b : Int32} {ms : List Value} {pl : Value} (hM : w.1 9 = some (.inr (5, .int 1 :: pl :: .int 0 :: ms))) (h : v < 0 ∨ 2 < v) : zmet (d + 2) 162 [.ref 9, .int v, .int c, .int b] w (some (.int (-2))) w := by
  refine ⟨_, rfl, Nat.le_of_ble_eq_true rfl, ?_⟩
  show zev (d + 2) 162 0 [some (.ref 9), some (.int v), some (.int c), some (.int b)] [] w _ _
  refine zt (pc' := 1) ((zd_162 _).trans rfl) zm_162 rfl rfl ?_
  refine zt (pc' := 2) ((zd_162 _).trans rfl) zm_162 rfl rfl ?_
  refine zt_V (pc' := 5) ((zd_162 _).trans rfl) zm_162 rfl zq_7_158 rfl (Nat.le_of_ble_eq_true rfl) hM zqv_7_158_5 (by decide) rfl (c_isSort0 hM h) ?_
  refine zt_ifT (tgt := 44) (pc' := 8) ((zd_162 _).trans rfl) zm_162 rfl rfl (zeq rfl) ?_
  refine zt (pc' := 46) ((zd_162 _).trans rfl) zm_162 rfl rfl ?_
  exact zte ((zd_162 _).trans rfl) zm_162 rfl
theorem t_stressed2 {d : Nat} {w : zW} {c b : Int32} {ms : List Value} {pl : Value} (hM : w.1 9 = some (.inr (5, .int 1 :: pl :: .int 0 :: ms))) : zmet (d + 2) 162 [.ref 9, .int 2, .int c, .int b] w (some (.int (-2))) w := by
  refine ⟨_, rfl, Nat.le_of_ble_eq_true rfl, ?_⟩
  show zev (d + 2) 162 0 [some (.ref 9), some (.int 2), some (.int c), some (.int b)] [] w _ _
  refine zt (pc' := 1) ((zd_162 _).trans rfl) zm_162 rfl rfl ?_
  refine zt (pc' := 2) ((zd_162 _).trans rfl) zm_162 rfl rfl ?_
  refine zt_V (pc' := 5) ((zd_162 _).trans rfl) zm_162 rfl zq_7_158 rfl (Nat.le_of_ble_eq_true rfl) hM zqv_7_158_5 (by decide) rfl (c_isSort1_2 hM) ?_
  refine zt_ifF (tgt := 44) (pc' := 8) ((zd_162 _).trans rfl) zm_162 rfl rfl (zneq (by decide)) ?_
  refine zt (pc' := 9) ((zd_162 _).trans rfl) zm_162 rfl rfl ?_
  refine zt (pc' := 10) ((zd_162 _).trans rfl) zm_162 rfl rfl ?_
  refine zt_icT (tgt := 44) (pc' := 13) ((zd_162 _).trans rfl) zm_162 rfl rfl (zeq rfl) ?_
  refine zt (pc' := 46) ((zd_162 _).trans rfl) zm_162 rfl rfl ?_
  exact zte ((zd_162 _).trans rfl) zm_162 rfl
theorem zm_128 : zMt[128]? = some (yX7_isCircuit, cX7_isCircuit, 6, (some .boolean), 7, false) := rfl
def zc0 : zW := zKw (zrunT 1000000 39 128 0 (zin 6 [.ref 9, .int 0, .int 0]) [] zx4)
theorem zc0_m : zmet 39 128 [.ref 9, .int 0, .int 0] zx4 (some (.int 0)) zc0 := zmetK zm_128 (by decide) (by decide +kernel)
theorem t_stressed0a {d : Nat} {w : zW} {c b : Int32} {ms : List Value} {pl : Value} (hM : w.1 9 = some (.inr (5, .int 1 :: pl :: .int 0 :: ms))) (h : c < 0 ∨ 1 <<< ((0 : Int32) &&& 31) - 1 < c) : zmet (d + 2) 162 [.ref 9, .int 0, .int c, .int b] w (some (.int (-2))) w := by
  refine ⟨_, rfl, Nat.le_of_ble_eq_true rfl, ?_⟩
  show zev (d + 2) 162 0 [some (.ref 9), some (.int 0), some (.int c), some (.int b)] [] w _ _
  refine zt (pc' := 1) ((zd_162 _).trans rfl) zm_162 rfl rfl ?_
  refine zt (pc' := 2) ((zd_162 _).trans rfl) zm_162 rfl rfl ?_
  refine zt_V (pc' := 5) ((zd_162 _).trans rfl) zm_162 rfl zq_7_158 rfl (Nat.le_of_ble_eq_true rfl) hM zqv_7_158_5 (by decide) rfl (c_isSort1_0 hM) ?_
  refine zt_ifF (tgt := 44) (pc' := 8) ((zd_162 _).trans rfl) zm_162 rfl rfl (zneq (by decide)) ?_
  refine zt (pc' := 9) ((zd_162 _).trans rfl) zm_162 rfl rfl ?_
  refine zt (pc' := 10) ((zd_162 _).trans rfl) zm_162 rfl rfl ?_
  refine zt_icF (tgt := 44) (pc' := 13) ((zd_162 _).trans rfl) zm_162 rfl rfl (zneq (by decide)) ?_
  refine zt (pc' := 14) ((zd_162 _).trans rfl) zm_162 rfl rfl ?_
  refine zt (pc' := 15) ((zd_162 _).trans rfl) zm_162 rfl rfl ?_
  refine zt_V (pc' := 18) ((zd_162 _).trans rfl) zm_162 rfl zq_7_161 rfl (Nat.le_of_ble_eq_true rfl) hM zqv_7_161_5 (by decide) rfl (c_isSet0 hM h) ?_
  refine zt_ifT (tgt := 44) (pc' := 21) ((zd_162 _).trans rfl) zm_162 rfl rfl (zeq rfl) ?_
  refine zt (pc' := 46) ((zd_162 _).trans rfl) zm_162 rfl rfl ?_
  exact zte ((zd_162 _).trans rfl) zm_162 rfl
theorem t_stressed0b {b : Int32} {ms : List Value} {pl : Value} (hM : zx4.1 9 = some (.inr (5, .int 1 :: pl :: .int 0 :: ms))) : zmet (40) 162 [.ref 9, .int 0, .int 0, .int b] zx4 (some (.int (-2))) zc0 := by
  refine ⟨_, rfl, Nat.le_of_ble_eq_true rfl, ?_⟩
  show zev (40) 162 0 [some (.ref 9), some (.int 0), some (.int 0), some (.int b)] [] zx4 _ _
  refine zt (pc' := 1) ((zd_162 _).trans rfl) zm_162 rfl rfl ?_
  refine zt (pc' := 2) ((zd_162 _).trans rfl) zm_162 rfl rfl ?_
  refine zt_V (pc' := 5) ((zd_162 _).trans rfl) zm_162 rfl zq_7_158 rfl (Nat.le_of_ble_eq_true rfl) hM zqv_7_158_5 (by decide) rfl (c_isSort1_0 hM) ?_
  refine zt_ifF (tgt := 44) (pc' := 8) ((zd_162 _).trans rfl) zm_162 rfl rfl (zneq (by decide)) ?_
  refine zt (pc' := 9) ((zd_162 _).trans rfl) zm_162 rfl rfl ?_
  refine zt (pc' := 10) ((zd_162 _).trans rfl) zm_162 rfl rfl ?_
  refine zt_icF (tgt := 44) (pc' := 13) ((zd_162 _).trans rfl) zm_162 rfl rfl (zneq (by decide)) ?_
  refine zt (pc' := 14) ((zd_162 _).trans rfl) zm_162 rfl rfl ?_
  refine zt (pc' := 15) ((zd_162 _).trans rfl) zm_162 rfl rfl ?_
  refine zt_V (pc' := 18) ((zd_162 _).trans rfl) zm_162 rfl zq_7_161 rfl (Nat.le_of_ble_eq_true rfl) hM zqv_7_161_5 (by decide) rfl (c_isSet1 hM (by decide) (by decide)) ?_
  refine zt_ifF (tgt := 44) (pc' := 21) ((zd_162 _).trans rfl) zm_162 rfl rfl (zneq (by decide)) ?_
  refine zt (pc' := 22) ((zd_162 _).trans rfl) zm_162 rfl rfl ?_
  refine zt (pc' := 23) ((zd_162 _).trans rfl) zm_162 rfl rfl ?_
  refine zt (pc' := 24) ((zd_162 _).trans rfl) zm_162 rfl rfl ?_
  refine zt_V (pc' := 27) ((zd_162 _).trans rfl) zm_162 rfl zq_7_191 rfl (Nat.le_of_ble_eq_true rfl) hM zqv_7_191_5 (by decide) rfl (zc0_m) ?_
  refine zt_ifT (tgt := 44) (pc' := 30) ((zd_162 _).trans rfl) zm_162 rfl rfl (zeq rfl) ?_
  refine zt (pc' := 46) ((zd_162 _).trans rfl) zm_162 rfl rfl ?_
  exact zte ((zd_162 _).trans rfl) zm_162 rfl
def zc1 : zW := zKw (zrunT 1000000 39 128 0 (zin 6 [.ref 9, .int 1, .int 0]) [] zx4)
theorem zc1_m : zmet 39 128 [.ref 9, .int 1, .int 0] zx4 (some (.int 0)) zc1 := zmetK zm_128 (by decide) (by decide +kernel)
theorem t_stressed1a {d : Nat} {w : zW} {c b : Int32} {ms : List Value} {pl : Value} (hM : w.1 9 = some (.inr (5, .int 1 :: pl :: .int 0 :: ms))) (h : c < 0 ∨ 1 <<< ((0 : Int32) &&& 31) - 1 < c) : zmet (d + 2) 162 [.ref 9, .int 1, .int c, .int b] w (some (.int (-2))) w := by
  refine ⟨_, rfl, Nat.le_of_ble_eq_true rfl, ?_⟩
  show zev (d + 2) 162 0 [some (.ref 9), some (.int 1), some (.int c), some (.int b)] [] w _ _
  refine zt (pc' := 1) ((zd_162 _).trans rfl) zm_162 rfl rfl ?_
  refine zt (pc' := 2) ((zd_162 _).trans rfl) zm_162 rfl rfl ?_
  refine zt_V (pc' := 5) ((zd_162 _).trans rfl) zm_162 rfl zq_7_158 rfl (Nat.le_of_ble_eq_true rfl) hM zqv_7_158_5 (by decide) rfl (c_isSort1_1 hM) ?_
  refine zt_ifF (tgt := 44) (pc' := 8) ((zd_162 _).trans rfl) zm_162 rfl rfl (zneq (by decide)) ?_
  refine zt (pc' := 9) ((zd_162 _).trans rfl) zm_162 rfl rfl ?_
  refine zt (pc' := 10) ((zd_162 _).trans rfl) zm_162 rfl rfl ?_
  refine zt_icF (tgt := 44) (pc' := 13) ((zd_162 _).trans rfl) zm_162 rfl rfl (zneq (by decide)) ?_
  refine zt (pc' := 14) ((zd_162 _).trans rfl) zm_162 rfl rfl ?_
  refine zt (pc' := 15) ((zd_162 _).trans rfl) zm_162 rfl rfl ?_
  refine zt_V (pc' := 18) ((zd_162 _).trans rfl) zm_162 rfl zq_7_161 rfl (Nat.le_of_ble_eq_true rfl) hM zqv_7_161_5 (by decide) rfl (c_isSet0 hM h) ?_
  refine zt_ifT (tgt := 44) (pc' := 21) ((zd_162 _).trans rfl) zm_162 rfl rfl (zeq rfl) ?_
  refine zt (pc' := 46) ((zd_162 _).trans rfl) zm_162 rfl rfl ?_
  exact zte ((zd_162 _).trans rfl) zm_162 rfl
theorem t_stressed1b {b : Int32} {ms : List Value} {pl : Value} (hM : zx4.1 9 = some (.inr (5, .int 1 :: pl :: .int 0 :: ms))) : zmet (40) 162 [.ref 9, .int 1, .int 0, .int b] zx4 (some (.int (-2))) zc1 := by
  refine ⟨_, rfl, Nat.le_of_ble_eq_true rfl, ?_⟩
  show zev (40) 162 0 [some (.ref 9), some (.int 1), some (.int 0), some (.int b)] [] zx4 _ _
  refine zt (pc' := 1) ((zd_162 _).trans rfl) zm_162 rfl rfl ?_
  refine zt (pc' := 2) ((zd_162 _).trans rfl) zm_162 rfl rfl ?_
  refine zt_V (pc' := 5) ((zd_162 _).trans rfl) zm_162 rfl zq_7_158 rfl (Nat.le_of_ble_eq_true rfl) hM zqv_7_158_5 (by decide) rfl (c_isSort1_1 hM) ?_
  refine zt_ifF (tgt := 44) (pc' := 8) ((zd_162 _).trans rfl) zm_162 rfl rfl (zneq (by decide)) ?_
  refine zt (pc' := 9) ((zd_162 _).trans rfl) zm_162 rfl rfl ?_
  refine zt (pc' := 10) ((zd_162 _).trans rfl) zm_162 rfl rfl ?_
  refine zt_icF (tgt := 44) (pc' := 13) ((zd_162 _).trans rfl) zm_162 rfl rfl (zneq (by decide)) ?_
  refine zt (pc' := 14) ((zd_162 _).trans rfl) zm_162 rfl rfl ?_
  refine zt (pc' := 15) ((zd_162 _).trans rfl) zm_162 rfl rfl ?_
  refine zt_V (pc' := 18) ((zd_162 _).trans rfl) zm_162 rfl zq_7_161 rfl (Nat.le_of_ble_eq_true rfl) hM zqv_7_161_5 (by decide) rfl (c_isSet1 hM (by decide) (by decide)) ?_
  refine zt_ifF (tgt := 44) (pc' := 21) ((zd_162 _).trans rfl) zm_162 rfl rfl (zneq (by decide)) ?_
  refine zt (pc' := 22) ((zd_162 _).trans rfl) zm_162 rfl rfl ?_
  refine zt (pc' := 23) ((zd_162 _).trans rfl) zm_162 rfl rfl ?_
  refine zt (pc' := 24) ((zd_162 _).trans rfl) zm_162 rfl rfl ?_
  refine zt_V (pc' := 27) ((zd_162 _).trans rfl) zm_162 rfl zq_7_191 rfl (Nat.le_of_ble_eq_true rfl) hM zqv_7_191_5 (by decide) rfl (zc1_m) ?_
  refine zt_ifT (tgt := 44) (pc' := 30) ((zd_162 _).trans rfl) zm_162 rfl rfl (zeq rfl) ?_
  refine zt (pc' := 46) ((zd_162 _).trans rfl) zm_162 rfl rfl ?_
  exact zte ((zd_162 _).trans rfl) zm_162 rfl
theorem p_stressed (v c b : Int32) : zP 98 162 [.int v, .int c, .int b] := by
  obtain ⟨p, ms, hM⟩ := zx4_9
  by_cases h : v < 0 ∨ 2 < v
  · exact zP_same (s_stressed zx4_1 zx4_2) (t_stressed hM h)
  · rcases z012 h with e | e | e <;> subst e
    · by_cases hc : c < 0 ∨ 1 <<< ((0 : Int32) &&& 31) - 1 < c
      · exact zP_same (s_stressed zx4_1 zx4_2) (t_stressed0a hM hc)
      · have e := z0s hc
        subst e
        exact ⟨-2, zx4, zc0, s_stressed zx4_1 zx4_2, t_stressed0b hM, zx4_Rm, zRm_ok (by decide +kernel)⟩
    · by_cases hc : c < 0 ∨ 1 <<< ((0 : Int32) &&& 31) - 1 < c
      · exact zP_same (s_stressed zx4_1 zx4_2) (t_stressed1a hM hc)
      · have e := z0s hc
        subst e
        exact ⟨-2, zx4, zc1, s_stressed zx4_1 zx4_2, t_stressed1b hM, zx4_Rm, zRm_ok (by decide +kernel)⟩
    · exact zP_same (s_stressed zx4_1 zx4_2) (t_stressed2 hM)
