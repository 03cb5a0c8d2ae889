/-! walks by the tables, and the small methods of both sides (printed by wip/gen/leaf.py) -/
section ZT
variable {d mi pc len mL o : Nat} {L L' : zL} {st st' rr : List Value} {w w1 w' : zW} {r : Option Value} {y : MethodName} {b : ByteArray} {ret : Option FieldType} {ini : Bool} {i : Instr} {pc' tgt : Nat}
theorem zt (hd : zdec mi pc = some (i, len)) (hM : zMt[mi]? = some (y, b, mL, ret, o, ini)) (he : zend ret i len st = none) (ha : zA mL i len pc L st = some (pc', L', st')) (k : zev d mi pc' L' st' w r w') : zev d mi pc L st w r w' := zev_A hM (zdec_ok hM hd) he ha k
theorem zte {r' : Option Value} (hd : zdec mi pc = some (i, len)) (hM : zMt[mi]? = some (y, b, mL, ret, o, ini)) (he : zend ret i len st = some r') : zev d mi pc L st w r' w := zev_end hM (zdec_ok hM hd) he
theorem zt_ifT {c : Jvm.ClassFile.Cond} {off : Int} {x : Int32} (hd : zdec mi pc = some (.ifCond c off, 3)) (hM : zMt[mi]? = some (y, b, mL, ret, o, ini)) (ht : (pc : Int) + off = (tgt : Int)) (_hp : pc + 3 = pc') (hv : zcc c x 0 = true) (k : zev d mi tgt L rr w r w') : zev d mi pc L (.int x :: rr) w r w' := zev_if tgt hM (zdec_ok hM hd) ht (fun _ => k) (fun h => by rw [hv] at h; cases h)
theorem zt_ifF {c : Jvm.ClassFile.Cond} {off : Int} {x : Int32} (hd : zdec mi pc = some (.ifCond c off, 3)) (hM : zMt[mi]? = some (y, b, mL, ret, o, ini)) (ht : (pc : Int) + off = (tgt : Int)) (hp : pc + 3 = pc') (hv : zcc c x 0 = false) (k : zev d mi pc' L rr w r w') : zev d mi pc L (.int x :: rr) w r w' := zev_if tgt hM (zdec_ok hM hd) ht (fun h => by rw [hv] at h; cases h) (fun _ => hp ▸ k)
theorem zt_icT {c : Jvm.ClassFile.Cond} {off : Int} {x z : Int32} (hd : zdec mi pc = some (.if_icmp c off, 3)) (hM : zMt[mi]? = some (y, b, mL, ret, o, ini)) (ht : (pc : Int) + off = (tgt : Int)) (_hp : pc + 3 = pc') (hv : zcc c x z = true) (k : zev d mi tgt L rr w r w') : zev d mi pc L (.int z :: .int x :: rr) w r w' := zev_ic tgt hM (zdec_ok hM hd) ht (fun _ => k) (fun h => by rw [hv] at h; cases h)
theorem zt_icF {c : Jvm.ClassFile.Cond} {off : Int} {x z : Int32} (hd : zdec mi pc = some (.if_icmp c off, 3)) (hM : zMt[mi]? = some (y, b, mL, ret, o, ini)) (ht : (pc : Int) + off = (tgt : Int)) (hp : pc + 3 = pc') (hv : zcc c x z = false) (k : zev d mi pc' L rr w r w') : zev d mi pc L (.int z :: .int x :: rr) w r w' := zev_ic tgt hM (zdec_ok hM hd) ht (fun h => by rw [hv] at h; cases h) (fun _ => hp ▸ k)
theorem zt_get {idx a ci k : Nat} {fs : List Value} {cs : List Nat} {v : Value} (hd : zdec mi pc = some (.getfield idx, 3)) (hM : zMt[mi]? = some (y, b, mL, ret, o, ini)) (hf : zfl o idx = some (k, cs)) (hp : pc + 3 = pc') (ha : w.1 a = some (.inr (ci, fs))) (hc : ci ∈ cs) (hv : fs[k]? = some v) (kk : zev d mi pc' L (v :: rr) w r w') : zev d mi pc L (.ref a :: rr) w r w' := zev_get hM (zdec_ok hM hd) hf ha hc hv (hp ▸ kk)
theorem zt_V {idx k0 c0 m0 n bb ci kd mj : Nat} {fs as : List Value} {v : Option Value} (hd : zdec mi pc = some (.invokevirtual idx, 3)) (hM : zMt[mi]? = some (y, b, mL, ret, o, ini)) (hp : pc + 3 = pc') (hcl : zcl o idx = some (k0, c0, m0, n)) (hst : st.drop n = .ref bb :: rr) (h8 : zsum (st.drop (n + 1)) ≤ 8) (hb : w.1 bb = some (.inr (ci, fs))) (hv : zclv o idx ci = some (kd, ci, mj, n)) (hk : kd = 3 ∨ kd = 4 ∨ kd = 5) (has : .ref bb :: (st.take n).reverse = as) (hm : zmet d mj as w v w1) (k : zev (d + 1) mi pc' L (v.toList ++ rr) w1 r w') : zev (d + 1) mi pc L st w r w' := by
  subst hp
  subst has
  refine zev_call hM (zdec_ok hM hd) rfl rfl rfl ?_ hm k
  simp only [zcall, hcl, h8, hst, hb, hv, hk]
  simp
theorem zt_S {idx c0 n mj : Nat} {as : List Value} {v : Option Value} (hd : zdec mi pc = some (.invokestatic idx, 3)) (hM : zMt[mi]? = some (y, b, mL, ret, o, ini)) (hp : pc + 3 = pc') (hcl : zcl o idx = some (2, c0, mj, n)) (hn : n ≤ st.length) (h8 : zsum (st.drop n) ≤ 8) (has : (st.take n).reverse = as) (hm : zmet d mj as w v w1) (k : zev (d + 1) mi pc' L (v.toList ++ st.drop n) w1 r w') : zev (d + 1) mi pc L st w r w' := by
  subst hp
  subst has
  have hc : zcall o (.invokestatic idx) 3 st w = some (mj, (st.take n).reverse, st.drop n) := by
    simp only [zcall, hcl, hn, h8]
    simp
  exact zev_call hM (zdec_ok hM hd) rfl rfl ((zcall_ex hc).2.2 _ _ _ _ _ _) hc hm k
theorem zcF {c : Jvm.ClassFile.Cond} {x y : Int32} {v : Bool} (h : zcc c x y = v) : zcc c x y = v := h
end ZT
/-- bounds -/
theorem zlt {x y : Int32} (h : x < y) : zcc .lt x y = true := by simp [zcc, h]
theorem znlt {x y : Int32} (h : ¬ x < y) : zcc .lt x y = false := by simp [zcc, h]
theorem zge {x y : Int32} (h : y ≤ x) : zcc .ge x y = true := by simp [zcc, h]
theorem znge {x y : Int32} (h : ¬ y ≤ x) : zcc .ge x y = false := by simp [zcc, h]
theorem zgt {x y : Int32} (h : y < x) : zcc .gt x y = true := by simp [zcc, h]
theorem zngt {x y : Int32} (h : ¬ y < x) : zcc .gt x y = false := by simp [zcc, h]
theorem zle' {x y : Int32} (h : x ≤ y) : zcc .le x y = true := by simp [zcc, h]
theorem znle {x y : Int32} (h : ¬ x ≤ y) : zcc .le x y = false := by simp [zcc, h]
theorem zeq {x y : Int32} (h : x = y) : zcc .eq x y = true := by simp [zcc, h]
theorem zneq {x y : Int32} (h : ¬ x = y) : zcc .eq x y = false := by simp [zcc, h]
theorem zne {x y : Int32} (h : ¬ x = y) : zcc .ne x y = true := by simp [zcc, h]
theorem znne {x y : Int32} (h : x = y) : zcc .ne x y = false := by simp [zcc, h]
theorem zm_9 : zMt[9]? = some (yX1_allBars, cX1_allBars, 1, (some .int), 1, false) := rfl
theorem zd_9 (pc : Nat) : zdec 9 pc = zdl_9.lookup pc := rfl
theorem zm_14 : zMt[14]? = some (yX1_hasBar, cX1_hasBar, 2, (some .boolean), 1, false) := rfl
theorem zd_14 (pc : Nat) : zdec 14 pc = zdl_14.lookup pc := rfl
theorem zm_15 : zMt[15]? = some (yX1_hasJoint, cX1_hasJoint, 2, (some .boolean), 1, false) := rfl
theorem zd_15 (pc : Nat) : zdec 15 pc = zdl_15.lookup pc := rfl
theorem zm_16 : zMt[16]? = some (yX1_hasSet, cX1_hasSet, 2, (some .boolean), 1, false) := rfl
theorem zd_16 (pc : Nat) : zdec 16 pc = zdl_16.lookup pc := rfl
theorem zm_84 : zMt[84]? = some (yX6_isPair, cX6_isPair, 3, (some .boolean), 6, false) := rfl
theorem zd_84 (pc : Nat) : zdec 84 pc = zdl_84.lookup pc := rfl
theorem zm_85 : zMt[85]? = some (yX6_isTooFar, cX6_isTooFar, 1, (some .boolean), 6, false) := rfl
theorem zd_85 (pc : Nat) : zdec 85 pc = zdl_85.lookup pc := rfl
theorem zm_91 : zMt[91]? = some (yX6_matroidOf, cX6_matroidOf, 2, (some (.object "RigidRanks$Matroid")), 6, false) := rfl
theorem zd_91 (pc : Nat) : zdec 91 pc = zdl_91.lookup pc := rfl
theorem zm_102 : zMt[102]? = some (yX7_all, cX7_all, 1, (some .int), 7, false) := rfl
theorem zd_102 (pc : Nat) : zdec 102 pc = zdl_102.lookup pc := rfl
theorem zm_131 : zMt[131]? = some (yX7_isIn, cX7_isIn, 3, (some .boolean), 7, false) := rfl
theorem zd_131 (pc : Nat) : zdec 131 pc = zdl_131.lookup pc := rfl
theorem zm_132 : zMt[132]? = some (yX7_isJoint, cX7_isJoint, 2, (some .boolean), 7, false) := rfl
theorem zd_132 (pc : Nat) : zdec 132 pc = zdl_132.lookup pc := rfl
theorem zm_137 : zMt[137]? = some (yX7_isSet, cX7_isSet, 2, (some .boolean), 7, false) := rfl
theorem zd_137 (pc : Nat) : zdec 137 pc = zdl_137.lookup pc := rfl
theorem zm_138 : zMt[138]? = some (yX7_isSort, cX7_isSort, 2, (some .boolean), 7, false) := rfl
theorem zd_138 (pc : Nat) : zdec 138 pc = zdl_138.lookup pc := rfl
theorem zm_139 : zMt[139]? = some (yX7_isWay, cX7_isWay, 1, (some .boolean), 7, false) := rfl
theorem zd_139 (pc : Nat) : zdec 139 pc = zdl_139.lookup pc := rfl
theorem zq_1_40 : zcl 1 40 = some (3, 1, 9, 0) := by decide +kernel
theorem zq_6_34 : zcl 6 34 = some (3, 1, 15, 1) := by decide +kernel
theorem zq_7_70 : zcl 7 70 = some (2, 0, 131, 3) := by decide +kernel
theorem zq_7_151 : zcl 7 151 = some (3, 5, 102, 0) := by decide +kernel
theorem zqv_1_40_1 : zclv 1 40 1 = some (3, 1, 9, 0) := by decide +kernel
theorem zqv_6_34_1 : zclv 6 34 1 = some (3, 1, 15, 1) := by decide +kernel
theorem zqv_7_151_5 : zclv 7 151 5 = some (3, 5, 102, 0) := by decide +kernel
theorem c_isIn1 {d : Nat} {w : zW} {v lo hi : Int32} (h1 : ¬ v < lo) (h2 : ¬ hi < v) : zmet (d) 131 [.int v, .int lo, .int hi] w (some (.int 1)) w := by
  refine ⟨_, rfl, Nat.le_of_ble_eq_true rfl, ?_⟩
  show zev (d) 131 0 [some (.int v), some (.int lo), some (.int hi)] [] w _ _
  refine zt (pc' := 1) ((zd_131 _).trans rfl) zm_131 rfl rfl ?_
  refine zt (pc' := 2) ((zd_131 _).trans rfl) zm_131 rfl rfl ?_
  refine zt_icF (tgt := 14) (pc' := 5) ((zd_131 _).trans rfl) zm_131 rfl rfl (znlt h1) ?_
  refine zt (pc' := 6) ((zd_131 _).trans rfl) zm_131 rfl rfl ?_
  refine zt (pc' := 7) ((zd_131 _).trans rfl) zm_131 rfl rfl ?_
  refine zt_icF (tgt := 14) (pc' := 10) ((zd_131 _).trans rfl) zm_131 rfl rfl (zngt h2) ?_
  refine zt (pc' := 11) ((zd_131 _).trans rfl) zm_131 rfl rfl ?_
  refine zt (pc' := 15) ((zd_131 _).trans rfl) zm_131 rfl rfl ?_
  exact zte ((zd_131 _).trans rfl) zm_131 rfl
theorem c_isIn0 {d : Nat} {w : zW} {v lo hi : Int32} (h : v < lo ∨ hi < v) : zmet d 131 [.int v, .int lo, .int hi] w (some (.int 0)) w := by
  refine ⟨_, rfl, Nat.le_of_ble_eq_true rfl, ?_⟩
  show zev d 131 0 [some (.int v), some (.int lo), some (.int hi)] [] w _ _
  by_cases h1 : v < lo
  · refine zt (pc' := 1) ((zd_131 _).trans rfl) zm_131 rfl rfl ?_
    refine zt (pc' := 2) ((zd_131 _).trans rfl) zm_131 rfl rfl ?_
    refine zt_icT (tgt := 14) (pc' := 5) ((zd_131 _).trans rfl) zm_131 rfl rfl (zlt h1) ?_
    refine zt (pc' := 15) ((zd_131 _).trans rfl) zm_131 rfl rfl ?_
    exact zte ((zd_131 _).trans rfl) zm_131 rfl
  · have h2 : hi < v := by exact h.resolve_left h1
    refine zt (pc' := 1) ((zd_131 _).trans rfl) zm_131 rfl rfl ?_
    refine zt (pc' := 2) ((zd_131 _).trans rfl) zm_131 rfl rfl ?_
    refine zt_icF (tgt := 14) (pc' := 5) ((zd_131 _).trans rfl) zm_131 rfl rfl (znlt h1) ?_
    refine zt (pc' := 6) ((zd_131 _).trans rfl) zm_131 rfl rfl ?_
    refine zt (pc' := 7) ((zd_131 _).trans rfl) zm_131 rfl rfl ?_
    refine zt_icT (tgt := 14) (pc' := 10) ((zd_131 _).trans rfl) zm_131 rfl rfl (zgt h2) ?_
    refine zt (pc' := 15) ((zd_131 _).trans rfl) zm_131 rfl rfl ?_
    exact zte ((zd_131 _).trans rfl) zm_131 rfl
theorem c_hasJoint1 {d : Nat} {w : zW} {a : Nat} {p0 p1 p2 p3 : Value} {v j bs ve : Int32} (hF : w.1 a = some (.inr (1, [p0, p1, p2, p3, .int j, .int bs, .int ve]))) (h1 : ¬ v < 0) (h2 : ¬ j ≤ v) : zmet (d) 15 [.ref a, .int v] w (some (.int 1)) w := by
  refine ⟨_, rfl, Nat.le_of_ble_eq_true rfl, ?_⟩
  show zev (d) 15 0 [some (.ref a), some (.int v)] [] w _ _
  refine zt (pc' := 1) ((zd_15 _).trans rfl) zm_15 rfl rfl ?_
  refine zt_ifF (tgt := 16) (pc' := 4) ((zd_15 _).trans rfl) zm_15 rfl rfl (znlt h1) ?_
  refine zt (pc' := 5) ((zd_15 _).trans rfl) zm_15 rfl rfl ?_
  refine zt (pc' := 6) ((zd_15 _).trans rfl) zm_15 rfl rfl ?_
  refine zt_get (pc' := 9) ((zd_15 _).trans rfl) zm_15 rfl rfl hF (by decide) rfl ?_
  refine zt_icF (tgt := 16) (pc' := 12) ((zd_15 _).trans rfl) zm_15 rfl rfl (znge h2) ?_
  refine zt (pc' := 13) ((zd_15 _).trans rfl) zm_15 rfl rfl ?_
  refine zt (pc' := 17) ((zd_15 _).trans rfl) zm_15 rfl rfl ?_
  exact zte ((zd_15 _).trans rfl) zm_15 rfl
theorem c_hasJoint0 {d : Nat} {w : zW} {a : Nat} {p0 p1 p2 p3 : Value} {v j bs ve : Int32} (hF : w.1 a = some (.inr (1, [p0, p1, p2, p3, .int j, .int bs, .int ve]))) (h : v < 0 ∨ j ≤ v) : zmet d 15 [.ref a, .int v] w (some (.int 0)) w := by
  refine ⟨_, rfl, Nat.le_of_ble_eq_true rfl, ?_⟩
  show zev d 15 0 [some (.ref a), some (.int v)] [] w _ _
  by_cases h1 : v < 0
  · refine zt (pc' := 1) ((zd_15 _).trans rfl) zm_15 rfl rfl ?_
    refine zt_ifT (tgt := 16) (pc' := 4) ((zd_15 _).trans rfl) zm_15 rfl rfl (zlt h1) ?_
    refine zt (pc' := 17) ((zd_15 _).trans rfl) zm_15 rfl rfl ?_
    exact zte ((zd_15 _).trans rfl) zm_15 rfl
  · have h2 : j ≤ v := by exact h.resolve_left h1
    refine zt (pc' := 1) ((zd_15 _).trans rfl) zm_15 rfl rfl ?_
    refine zt_ifF (tgt := 16) (pc' := 4) ((zd_15 _).trans rfl) zm_15 rfl rfl (znlt h1) ?_
    refine zt (pc' := 5) ((zd_15 _).trans rfl) zm_15 rfl rfl ?_
    refine zt (pc' := 6) ((zd_15 _).trans rfl) zm_15 rfl rfl ?_
    refine zt_get (pc' := 9) ((zd_15 _).trans rfl) zm_15 rfl rfl hF (by decide) rfl ?_
    refine zt_icT (tgt := 16) (pc' := 12) ((zd_15 _).trans rfl) zm_15 rfl rfl (zge h2) ?_
    refine zt (pc' := 17) ((zd_15 _).trans rfl) zm_15 rfl rfl ?_
    exact zte ((zd_15 _).trans rfl) zm_15 rfl
theorem c_hasBar1 {d : Nat} {w : zW} {a : Nat} {p0 p1 p2 p3 : Value} {v j bs ve : Int32} (hF : w.1 a = some (.inr (1, [p0, p1, p2, p3, .int j, .int bs, .int ve]))) (h1 : ¬ v < 0) (h2 : ¬ bs ≤ v) : zmet (d) 14 [.ref a, .int v] w (some (.int 1)) w := by
  refine ⟨_, rfl, Nat.le_of_ble_eq_true rfl, ?_⟩
  show zev (d) 14 0 [some (.ref a), some (.int v)] [] w _ _
  refine zt (pc' := 1) ((zd_14 _).trans rfl) zm_14 rfl rfl ?_
  refine zt_ifF (tgt := 16) (pc' := 4) ((zd_14 _).trans rfl) zm_14 rfl rfl (znlt h1) ?_
  refine zt (pc' := 5) ((zd_14 _).trans rfl) zm_14 rfl rfl ?_
  refine zt (pc' := 6) ((zd_14 _).trans rfl) zm_14 rfl rfl ?_
  refine zt_get (pc' := 9) ((zd_14 _).trans rfl) zm_14 rfl rfl hF (by decide) rfl ?_
  refine zt_icF (tgt := 16) (pc' := 12) ((zd_14 _).trans rfl) zm_14 rfl rfl (znge h2) ?_
  refine zt (pc' := 13) ((zd_14 _).trans rfl) zm_14 rfl rfl ?_
  refine zt (pc' := 17) ((zd_14 _).trans rfl) zm_14 rfl rfl ?_
  exact zte ((zd_14 _).trans rfl) zm_14 rfl
theorem c_hasBar0 {d : Nat} {w : zW} {a : Nat} {p0 p1 p2 p3 : Value} {v j bs ve : Int32} (hF : w.1 a = some (.inr (1, [p0, p1, p2, p3, .int j, .int bs, .int ve]))) (h : v < 0 ∨ bs ≤ v) : zmet d 14 [.ref a, .int v] w (some (.int 0)) w := by
  refine ⟨_, rfl, Nat.le_of_ble_eq_true rfl, ?_⟩
  show zev d 14 0 [some (.ref a), some (.int v)] [] w _ _
  by_cases h1 : v < 0
  · refine zt (pc' := 1) ((zd_14 _).trans rfl) zm_14 rfl rfl ?_
    refine zt_ifT (tgt := 16) (pc' := 4) ((zd_14 _).trans rfl) zm_14 rfl rfl (zlt h1) ?_
    refine zt (pc' := 17) ((zd_14 _).trans rfl) zm_14 rfl rfl ?_
    exact zte ((zd_14 _).trans rfl) zm_14 rfl
  · have h2 : bs ≤ v := by exact h.resolve_left h1
    refine zt (pc' := 1) ((zd_14 _).trans rfl) zm_14 rfl rfl ?_
    refine zt_ifF (tgt := 16) (pc' := 4) ((zd_14 _).trans rfl) zm_14 rfl rfl (znlt h1) ?_
    refine zt (pc' := 5) ((zd_14 _).trans rfl) zm_14 rfl rfl ?_
    refine zt (pc' := 6) ((zd_14 _).trans rfl) zm_14 rfl rfl ?_
    refine zt_get (pc' := 9) ((zd_14 _).trans rfl) zm_14 rfl rfl hF (by decide) rfl ?_
    refine zt_icT (tgt := 16) (pc' := 12) ((zd_14 _).trans rfl) zm_14 rfl rfl (zge h2) ?_
    refine zt (pc' := 17) ((zd_14 _).trans rfl) zm_14 rfl rfl ?_
    exact zte ((zd_14 _).trans rfl) zm_14 rfl
theorem c_allBars {d : Nat} {w : zW} {a : Nat} {p0 p1 p2 p3 : Value} {j bs ve : Int32} (hF : w.1 a = some (.inr (1, [p0, p1, p2, p3, .int j, .int bs, .int ve]))) : zmet (d) 9 [.ref a] w (some (.int (1 <<< (bs &&& 31) - 1))) w := by
  refine ⟨_, rfl, Nat.le_of_ble_eq_true rfl, ?_⟩
  show zev (d) 9 0 [some (.ref a)] [] w _ _
  refine zt (pc' := 1) ((zd_9 _).trans rfl) zm_9 rfl rfl ?_
  refine zt (pc' := 2) ((zd_9 _).trans rfl) zm_9 rfl rfl ?_
  refine zt_get (pc' := 5) ((zd_9 _).trans rfl) zm_9 rfl rfl hF (by decide) rfl ?_
  refine zt (pc' := 6) ((zd_9 _).trans rfl) zm_9 rfl rfl ?_
  refine zt (pc' := 7) ((zd_9 _).trans rfl) zm_9 rfl rfl ?_
  refine zt (pc' := 8) ((zd_9 _).trans rfl) zm_9 rfl rfl ?_
  exact zte ((zd_9 _).trans rfl) zm_9 rfl
theorem c_hasSet1 {d : Nat} {w : zW} {a : Nat} {p0 p1 p2 p3 : Value} {v j bs ve : Int32} (hF : w.1 a = some (.inr (1, [p0, p1, p2, p3, .int j, .int bs, .int ve]))) (h1 : ¬ v < 0) (h2 : ¬ 1 <<< (bs &&& 31) - 1 < v) : zmet (d + 1) 16 [.ref a, .int v] w (some (.int 1)) w := by
  refine ⟨_, rfl, Nat.le_of_ble_eq_true rfl, ?_⟩
  show zev (d + 1) 16 0 [some (.ref a), some (.int v)] [] w _ _
  refine zt (pc' := 1) ((zd_16 _).trans rfl) zm_16 rfl rfl ?_
  refine zt_ifF (tgt := 16) (pc' := 4) ((zd_16 _).trans rfl) zm_16 rfl rfl (znlt h1) ?_
  refine zt (pc' := 5) ((zd_16 _).trans rfl) zm_16 rfl rfl ?_
  refine zt (pc' := 6) ((zd_16 _).trans rfl) zm_16 rfl rfl ?_
  refine zt_V (pc' := 9) ((zd_16 _).trans rfl) zm_16 rfl zq_1_40 rfl (Nat.le_of_ble_eq_true rfl) hF zqv_1_40_1 (by decide) rfl (c_allBars hF) ?_
  refine zt_icF (tgt := 16) (pc' := 12) ((zd_16 _).trans rfl) zm_16 rfl rfl (zngt h2) ?_
  refine zt (pc' := 13) ((zd_16 _).trans rfl) zm_16 rfl rfl ?_
  refine zt (pc' := 17) ((zd_16 _).trans rfl) zm_16 rfl rfl ?_
  exact zte ((zd_16 _).trans rfl) zm_16 rfl
theorem c_hasSet0 {d : Nat} {w : zW} {a : Nat} {p0 p1 p2 p3 : Value} {v j bs ve : Int32} (hF : w.1 a = some (.inr (1, [p0, p1, p2, p3, .int j, .int bs, .int ve]))) (h : v < 0 ∨ 1 <<< (bs &&& 31) - 1 < v) : zmet (d + 1) 16 [.ref a, .int v] w (some (.int 0)) w := by
  refine ⟨_, rfl, Nat.le_of_ble_eq_true rfl, ?_⟩
  show zev (d + 1) 16 0 [some (.ref a), some (.int v)] [] w _ _
  by_cases h1 : v < 0
  · refine zt (pc' := 1) ((zd_16 _).trans rfl) zm_16 rfl rfl ?_
    refine zt_ifT (tgt := 16) (pc' := 4) ((zd_16 _).trans rfl) zm_16 rfl rfl (zlt h1) ?_
    refine zt (pc' := 17) ((zd_16 _).trans rfl) zm_16 rfl rfl ?_
    exact zte ((zd_16 _).trans rfl) zm_16 rfl
  · have h2 : 1 <<< (bs &&& 31) - 1 < v := by exact h.resolve_left h1
    refine zt (pc' := 1) ((zd_16 _).trans rfl) zm_16 rfl rfl ?_
    refine zt_ifF (tgt := 16) (pc' := 4) ((zd_16 _).trans rfl) zm_16 rfl rfl (znlt h1) ?_
    refine zt (pc' := 5) ((zd_16 _).trans rfl) zm_16 rfl rfl ?_
    refine zt (pc' := 6) ((zd_16 _).trans rfl) zm_16 rfl rfl ?_
    refine zt_V (pc' := 9) ((zd_16 _).trans rfl) zm_16 rfl zq_1_40 rfl (Nat.le_of_ble_eq_true rfl) hF zqv_1_40_1 (by decide) rfl (c_allBars hF) ?_
    refine zt_icT (tgt := 16) (pc' := 12) ((zd_16 _).trans rfl) zm_16 rfl rfl (zgt h2) ?_
    refine zt (pc' := 17) ((zd_16 _).trans rfl) zm_16 rfl rfl ?_
    exact zte ((zd_16 _).trans rfl) zm_16 rfl
theorem c_far0 {d : Nat} {w : zW} {v : Int32} (h1 : ¬ v < -4) (h2 : v ≤ 4) : zmet (d) 85 [.int v] w (some (.int 0)) w := by
  refine ⟨_, rfl, Nat.le_of_ble_eq_true rfl, ?_⟩
  show zev (d) 85 0 [some (.int v)] [] w _ _
  refine zt (pc' := 1) ((zd_85 _).trans rfl) zm_85 rfl rfl ?_
  refine zt (pc' := 3) ((zd_85 _).trans rfl) zm_85 rfl rfl ?_
  refine zt_icF (tgt := 11) (pc' := 6) ((zd_85 _).trans rfl) zm_85 rfl rfl (znlt h1) ?_
  refine zt (pc' := 7) ((zd_85 _).trans rfl) zm_85 rfl rfl ?_
  refine zt (pc' := 8) ((zd_85 _).trans rfl) zm_85 rfl rfl ?_
  refine zt_icT (tgt := 15) (pc' := 11) ((zd_85 _).trans rfl) zm_85 rfl rfl (zle' h2) ?_
  refine zt (pc' := 16) ((zd_85 _).trans rfl) zm_85 rfl rfl ?_
  exact zte ((zd_85 _).trans rfl) zm_85 rfl
theorem c_far1a {d : Nat} {w : zW} {v : Int32} (h1 : v < -4) : zmet (d) 85 [.int v] w (some (.int 1)) w := by
  refine ⟨_, rfl, Nat.le_of_ble_eq_true rfl, ?_⟩
  show zev (d) 85 0 [some (.int v)] [] w _ _
  refine zt (pc' := 1) ((zd_85 _).trans rfl) zm_85 rfl rfl ?_
  refine zt (pc' := 3) ((zd_85 _).trans rfl) zm_85 rfl rfl ?_
  refine zt_icT (tgt := 11) (pc' := 6) ((zd_85 _).trans rfl) zm_85 rfl rfl (zlt h1) ?_
  refine zt (pc' := 12) ((zd_85 _).trans rfl) zm_85 rfl rfl ?_
  refine zt (pc' := 16) ((zd_85 _).trans rfl) zm_85 rfl rfl ?_
  exact zte ((zd_85 _).trans rfl) zm_85 rfl
theorem c_far1b {d : Nat} {w : zW} {v : Int32} (h1 : ¬ v < -4) (h2 : ¬ v ≤ 4) : zmet (d) 85 [.int v] w (some (.int 1)) w := by
  refine ⟨_, rfl, Nat.le_of_ble_eq_true rfl, ?_⟩
  show zev (d) 85 0 [some (.int v)] [] w _ _
  refine zt (pc' := 1) ((zd_85 _).trans rfl) zm_85 rfl rfl ?_
  refine zt (pc' := 3) ((zd_85 _).trans rfl) zm_85 rfl rfl ?_
  refine zt_icF (tgt := 11) (pc' := 6) ((zd_85 _).trans rfl) zm_85 rfl rfl (znlt h1) ?_
  refine zt (pc' := 7) ((zd_85 _).trans rfl) zm_85 rfl rfl ?_
  refine zt (pc' := 8) ((zd_85 _).trans rfl) zm_85 rfl rfl ?_
  refine zt_icF (tgt := 15) (pc' := 11) ((zd_85 _).trans rfl) zm_85 rfl rfl (znle h2) ?_
  refine zt (pc' := 12) ((zd_85 _).trans rfl) zm_85 rfl rfl ?_
  refine zt (pc' := 16) ((zd_85 _).trans rfl) zm_85 rfl rfl ?_
  exact zte ((zd_85 _).trans rfl) zm_85 rfl
theorem z01 {v : Int32} (h1 : ¬ v < 0) (h2 : ¬ (1 : Int32) ≤ v) : v = 0 := by
  have a := Int32.not_lt.mp h1
  have b := Int32.not_le.mp h2
  rw [Int32.le_iff_toInt_le] at a
  rw [Int32.lt_iff_toInt_lt] at b
  have e0 : (0 : Int32).toInt = 0 := rfl
  have e1 : (1 : Int32).toInt = 1 := rfl
  exact Int32.toInt_inj.mp (by omega)
theorem c_isPair0 {d : Nat} {w : zW} {a b : Int32} {q1 q2 : Value} (hX : w.1 1 = some (.inr (4, [.ref 2, q1, q2]))) {p0 p1 p2 p3 : Value} {bs ve : Int32} (hF : w.1 2 = some (.inr (1, [p0, p1, p2, p3, .int 1, .int bs, .int ve]))) : zmet (d + 1) 84 [.ref 1, .int a, .int b] w (some (.int 0)) w := by
  refine ⟨_, rfl, Nat.le_of_ble_eq_true rfl, ?_⟩
  show zev (d + 1) 84 0 [some (.ref 1), some (.int a), some (.int b)] [] w _ _
  by_cases ha : a < 0 ∨ (1 : Int32) ≤ a
  · refine zt (pc' := 1) ((zd_84 _).trans rfl) zm_84 rfl rfl ?_
    refine zt_get (pc' := 4) ((zd_84 _).trans rfl) zm_84 rfl rfl hX (by decide) rfl ?_
    refine zt (pc' := 5) ((zd_84 _).trans rfl) zm_84 rfl rfl ?_
    refine zt_V (pc' := 8) ((zd_84 _).trans rfl) zm_84 rfl zq_6_34 rfl (Nat.le_of_ble_eq_true rfl) hF zqv_6_34_1 (by decide) rfl (c_hasJoint0 hF ha) ?_
    refine zt_ifT (tgt := 31) (pc' := 11) ((zd_84 _).trans rfl) zm_84 rfl rfl (zeq rfl) ?_
    refine zt (pc' := 32) ((zd_84 _).trans rfl) zm_84 rfl rfl ?_
    exact zte ((zd_84 _).trans rfl) zm_84 rfl
  · have ha1 : ¬ a < 0 := fun h => ha (Or.inl h)
    have ha2 : ¬ (1 : Int32) ≤ a := fun h => ha (Or.inr h)
    by_cases hb : b < 0 ∨ (1 : Int32) ≤ b
    · refine zt (pc' := 1) ((zd_84 _).trans rfl) zm_84 rfl rfl ?_
      refine zt_get (pc' := 4) ((zd_84 _).trans rfl) zm_84 rfl rfl hX (by decide) rfl ?_
      refine zt (pc' := 5) ((zd_84 _).trans rfl) zm_84 rfl rfl ?_
      refine zt_V (pc' := 8) ((zd_84 _).trans rfl) zm_84 rfl zq_6_34 rfl (Nat.le_of_ble_eq_true rfl) hF zqv_6_34_1 (by decide) rfl (c_hasJoint1 hF ha1 ha2) ?_
      refine zt_ifF (tgt := 31) (pc' := 11) ((zd_84 _).trans rfl) zm_84 rfl rfl (zneq (by decide)) ?_
      refine zt (pc' := 12) ((zd_84 _).trans rfl) zm_84 rfl rfl ?_
      refine zt_get (pc' := 15) ((zd_84 _).trans rfl) zm_84 rfl rfl hX (by decide) rfl ?_
      refine zt (pc' := 16) ((zd_84 _).trans rfl) zm_84 rfl rfl ?_
      refine zt_V (pc' := 19) ((zd_84 _).trans rfl) zm_84 rfl zq_6_34 rfl (Nat.le_of_ble_eq_true rfl) hF zqv_6_34_1 (by decide) rfl (c_hasJoint0 hF hb) ?_
      refine zt_ifT (tgt := 31) (pc' := 22) ((zd_84 _).trans rfl) zm_84 rfl rfl (zeq rfl) ?_
      refine zt (pc' := 32) ((zd_84 _).trans rfl) zm_84 rfl rfl ?_
      exact zte ((zd_84 _).trans rfl) zm_84 rfl
    · have hb1 : ¬ b < 0 := fun h => hb (Or.inl h)
      have hb2 : ¬ (1 : Int32) ≤ b := fun h => hb (Or.inr h)
      have hab : a = b := (z01 ha1 ha2).trans (z01 hb1 hb2).symm
      refine zt (pc' := 1) ((zd_84 _).trans rfl) zm_84 rfl rfl ?_
      refine zt_get (pc' := 4) ((zd_84 _).trans rfl) zm_84 rfl rfl hX (by decide) rfl ?_
      refine zt (pc' := 5) ((zd_84 _).trans rfl) zm_84 rfl rfl ?_
      refine zt_V (pc' := 8) ((zd_84 _).trans rfl) zm_84 rfl zq_6_34 rfl (Nat.le_of_ble_eq_true rfl) hF zqv_6_34_1 (by decide) rfl (c_hasJoint1 hF ha1 ha2) ?_
      refine zt_ifF (tgt := 31) (pc' := 11) ((zd_84 _).trans rfl) zm_84 rfl rfl (zneq (by decide)) ?_
      refine zt (pc' := 12) ((zd_84 _).trans rfl) zm_84 rfl rfl ?_
      refine zt_get (pc' := 15) ((zd_84 _).trans rfl) zm_84 rfl rfl hX (by decide) rfl ?_
      refine zt (pc' := 16) ((zd_84 _).trans rfl) zm_84 rfl rfl ?_
      refine zt_V (pc' := 19) ((zd_84 _).trans rfl) zm_84 rfl zq_6_34 rfl (Nat.le_of_ble_eq_true rfl) hF zqv_6_34_1 (by decide) rfl (c_hasJoint1 hF hb1 hb2) ?_
      refine zt_ifF (tgt := 31) (pc' := 22) ((zd_84 _).trans rfl) zm_84 rfl rfl (zneq (by decide)) ?_
      refine zt (pc' := 23) ((zd_84 _).trans rfl) zm_84 rfl rfl ?_
      refine zt (pc' := 24) ((zd_84 _).trans rfl) zm_84 rfl rfl ?_
      refine zt_icT (tgt := 31) (pc' := 27) ((zd_84 _).trans rfl) zm_84 rfl rfl (zeq hab) ?_
      refine zt (pc' := 32) ((zd_84 _).trans rfl) zm_84 rfl rfl ?_
      exact zte ((zd_84 _).trans rfl) zm_84 rfl
theorem c_matroidOf0 {d : Nat} {w : zW} {v : Int32} (h : v < 0 ∨ (3 : Int32) ≤ v) : zmet d 91 [.ref 1, .int v] w (some .null) w := by
  refine ⟨_, rfl, Nat.le_of_ble_eq_true rfl, ?_⟩
  show zev d 91 0 [some (.ref 1), some (.int v)] [] w _ _
  by_cases h1 : v < 0
  · refine zt (pc' := 1) ((zd_91 _).trans rfl) zm_91 rfl rfl ?_
    refine zt_ifT (tgt := 25) (pc' := 4) ((zd_91 _).trans rfl) zm_91 rfl rfl (zlt h1) ?_
    refine zt (pc' := 26) ((zd_91 _).trans rfl) zm_91 rfl rfl ?_
    exact zte ((zd_91 _).trans rfl) zm_91 rfl
  · have h2 : (3 : Int32) ≤ v := by exact h.resolve_left h1
    refine zt (pc' := 1) ((zd_91 _).trans rfl) zm_91 rfl rfl ?_
    refine zt_ifF (tgt := 25) (pc' := 4) ((zd_91 _).trans rfl) zm_91 rfl rfl (znlt h1) ?_
    refine zt (pc' := 5) ((zd_91 _).trans rfl) zm_91 rfl rfl ?_
    refine zt (pc' := 6) ((zd_91 _).trans rfl) zm_91 rfl rfl ?_
    refine zt_icT (tgt := 25) (pc' := 9) ((zd_91 _).trans rfl) zm_91 rfl rfl (zge h2) ?_
    refine zt (pc' := 26) ((zd_91 _).trans rfl) zm_91 rfl rfl ?_
    exact zte ((zd_91 _).trans rfl) zm_91 rfl
theorem c_isJoint1 {d : Nat} {w : zW} {ms : List Value} {n bs : Int32} {pl : Value} (hM : w.1 9 = some (.inr (5, .int n :: pl :: .int bs :: ms))) {v : Int32} (h1 : ¬ v < 0) (h2 : ¬ n - 1 < v) : zmet (d + 1) 132 [.ref 9, .int v] w (some (.int 1)) w := by
  refine ⟨_, rfl, Nat.le_of_ble_eq_true rfl, ?_⟩
  show zev (d + 1) 132 0 [some (.ref 9), some (.int v)] [] w _ _
  refine zt (pc' := 1) ((zd_132 _).trans rfl) zm_132 rfl rfl ?_
  refine zt (pc' := 2) ((zd_132 _).trans rfl) zm_132 rfl rfl ?_
  refine zt (pc' := 3) ((zd_132 _).trans rfl) zm_132 rfl rfl ?_
  refine zt_get (pc' := 6) ((zd_132 _).trans rfl) zm_132 rfl rfl hM (by decide) rfl ?_
  refine zt (pc' := 7) ((zd_132 _).trans rfl) zm_132 rfl rfl ?_
  refine zt (pc' := 8) ((zd_132 _).trans rfl) zm_132 rfl rfl ?_
  refine zt_S (pc' := 11) ((zd_132 _).trans rfl) zm_132 rfl zq_7_70 (Nat.le_of_ble_eq_true rfl) (Nat.le_of_ble_eq_true rfl) rfl (c_isIn1 h1 h2) ?_
  exact zte ((zd_132 _).trans rfl) zm_132 rfl
theorem c_isJoint0 {d : Nat} {w : zW} {ms : List Value} {n bs : Int32} {pl : Value} (hM : w.1 9 = some (.inr (5, .int n :: pl :: .int bs :: ms))) {v : Int32} (h : v < 0 ∨ n - 1 < v) : zmet (d + 1) 132 [.ref 9, .int v] w (some (.int 0)) w := by
  refine ⟨_, rfl, Nat.le_of_ble_eq_true rfl, ?_⟩
  show zev (d + 1) 132 0 [some (.ref 9), some (.int v)] [] w _ _
  refine zt (pc' := 1) ((zd_132 _).trans rfl) zm_132 rfl rfl ?_
  refine zt (pc' := 2) ((zd_132 _).trans rfl) zm_132 rfl rfl ?_
  refine zt (pc' := 3) ((zd_132 _).trans rfl) zm_132 rfl rfl ?_
  refine zt_get (pc' := 6) ((zd_132 _).trans rfl) zm_132 rfl rfl hM (by decide) rfl ?_
  refine zt (pc' := 7) ((zd_132 _).trans rfl) zm_132 rfl rfl ?_
  refine zt (pc' := 8) ((zd_132 _).trans rfl) zm_132 rfl rfl ?_
  refine zt_S (pc' := 11) ((zd_132 _).trans rfl) zm_132 rfl zq_7_70 (Nat.le_of_ble_eq_true rfl) (Nat.le_of_ble_eq_true rfl) rfl (c_isIn0 h) ?_
  exact zte ((zd_132 _).trans rfl) zm_132 rfl
theorem c_isWay1 {d : Nat} {w : zW} {v : Int32} (h1 : ¬ v < -4) (h2 : ¬ 4 < v) : zmet (d + 1) 139 [.int v] w (some (.int 1)) w := by
  refine ⟨_, rfl, Nat.le_of_ble_eq_true rfl, ?_⟩
  show zev (d + 1) 139 0 [some (.int v)] [] w _ _
  refine zt (pc' := 1) ((zd_139 _).trans rfl) zm_139 rfl rfl ?_
  refine zt (pc' := 3) ((zd_139 _).trans rfl) zm_139 rfl rfl ?_
  refine zt (pc' := 4) ((zd_139 _).trans rfl) zm_139 rfl rfl ?_
  refine zt_S (pc' := 7) ((zd_139 _).trans rfl) zm_139 rfl zq_7_70 (Nat.le_of_ble_eq_true rfl) (Nat.le_of_ble_eq_true rfl) rfl (c_isIn1 h1 h2) ?_
  exact zte ((zd_139 _).trans rfl) zm_139 rfl
theorem c_isWay0 {d : Nat} {w : zW} {v : Int32} (h : v < -4 ∨ 4 < v) : zmet (d + 1) 139 [.int v] w (some (.int 0)) w := by
  refine ⟨_, rfl, Nat.le_of_ble_eq_true rfl, ?_⟩
  show zev (d + 1) 139 0 [some (.int v)] [] w _ _
  refine zt (pc' := 1) ((zd_139 _).trans rfl) zm_139 rfl rfl ?_
  refine zt (pc' := 3) ((zd_139 _).trans rfl) zm_139 rfl rfl ?_
  refine zt (pc' := 4) ((zd_139 _).trans rfl) zm_139 rfl rfl ?_
  refine zt_S (pc' := 7) ((zd_139 _).trans rfl) zm_139 rfl zq_7_70 (Nat.le_of_ble_eq_true rfl) (Nat.le_of_ble_eq_true rfl) rfl (c_isIn0 h) ?_
  exact zte ((zd_139 _).trans rfl) zm_139 rfl
theorem c_all {d : Nat} {w : zW} {ms : List Value} {n bs : Int32} {pl : Value} (hM : w.1 9 = some (.inr (5, .int n :: pl :: .int bs :: ms))) : zmet (d) 102 [.ref 9] w (some (.int (1 <<< (bs &&& 31) - 1))) w := by
  refine ⟨_, rfl, Nat.le_of_ble_eq_true rfl, ?_⟩
  show zev (d) 102 0 [some (.ref 9)] [] w _ _
  refine zt (pc' := 1) ((zd_102 _).trans rfl) zm_102 rfl rfl ?_
  refine zt (pc' := 2) ((zd_102 _).trans rfl) zm_102 rfl rfl ?_
  refine zt_get (pc' := 5) ((zd_102 _).trans rfl) zm_102 rfl rfl hM (by decide) rfl ?_
  refine zt (pc' := 6) ((zd_102 _).trans rfl) zm_102 rfl rfl ?_
  refine zt (pc' := 7) ((zd_102 _).trans rfl) zm_102 rfl rfl ?_
  refine zt (pc' := 8) ((zd_102 _).trans rfl) zm_102 rfl rfl ?_
  exact zte ((zd_102 _).trans rfl) zm_102 rfl
theorem c_isSet1 {d : Nat} {w : zW} {ms : List Value} {n bs : Int32} {pl : Value} (hM : w.1 9 = some (.inr (5, .int n :: pl :: .int bs :: ms))) {v : Int32} (h1 : ¬ v < 0) (h2 : ¬ 1 <<< (bs &&& 31) - 1 < v) : zmet (d + 1) 137 [.ref 9, .int v] w (some (.int 1)) w := by
  refine ⟨_, rfl, Nat.le_of_ble_eq_true rfl, ?_⟩
  show zev (d + 1) 137 0 [some (.ref 9), some (.int v)] [] w _ _
  refine zt (pc' := 1) ((zd_137 _).trans rfl) zm_137 rfl rfl ?_
  refine zt (pc' := 2) ((zd_137 _).trans rfl) zm_137 rfl rfl ?_
  refine zt (pc' := 3) ((zd_137 _).trans rfl) zm_137 rfl rfl ?_
  refine zt_V (pc' := 6) ((zd_137 _).trans rfl) zm_137 rfl zq_7_151 rfl (Nat.le_of_ble_eq_true rfl) hM zqv_7_151_5 (by decide) rfl (c_all hM) ?_
  refine zt_S (pc' := 9) ((zd_137 _).trans rfl) zm_137 rfl zq_7_70 (Nat.le_of_ble_eq_true rfl) (Nat.le_of_ble_eq_true rfl) rfl (c_isIn1 h1 h2) ?_
  exact zte ((zd_137 _).trans rfl) zm_137 rfl
theorem c_isSet0 {d : Nat} {w : zW} {ms : List Value} {n bs : Int32} {pl : Value} (hM : w.1 9 = some (.inr (5, .int n :: pl :: .int bs :: ms))) {v : Int32} (h : v < 0 ∨ 1 <<< (bs &&& 31) - 1 < v) : zmet (d + 1) 137 [.ref 9, .int v] w (some (.int 0)) w := by
  refine ⟨_, rfl, Nat.le_of_ble_eq_true rfl, ?_⟩
  show zev (d + 1) 137 0 [some (.ref 9), some (.int v)] [] w _ _
  refine zt (pc' := 1) ((zd_137 _).trans rfl) zm_137 rfl rfl ?_
  refine zt (pc' := 2) ((zd_137 _).trans rfl) zm_137 rfl rfl ?_
  refine zt (pc' := 3) ((zd_137 _).trans rfl) zm_137 rfl rfl ?_
  refine zt_V (pc' := 6) ((zd_137 _).trans rfl) zm_137 rfl zq_7_151 rfl (Nat.le_of_ble_eq_true rfl) hM zqv_7_151_5 (by decide) rfl (c_all hM) ?_
  refine zt_S (pc' := 9) ((zd_137 _).trans rfl) zm_137 rfl zq_7_70 (Nat.le_of_ble_eq_true rfl) (Nat.le_of_ble_eq_true rfl) rfl (c_isIn0 h) ?_
  exact zte ((zd_137 _).trans rfl) zm_137 rfl
theorem c_isSort0 {d : Nat} {w : zW} {ms : List Value} {n bs : Int32} {pl : Value} (hM : w.1 9 = some (.inr (5, .int n :: pl :: .int bs :: ms))) {v : Int32} (h : v < 0 ∨ 2 < v) : zmet (d + 1) 138 [.ref 9, .int v] w (some (.int 0)) w := by
  refine ⟨_, rfl, Nat.le_of_ble_eq_true rfl, ?_⟩
  show zev (d + 1) 138 0 [some (.ref 9), some (.int v)] [] w _ _
  refine zt (pc' := 1) ((zd_138 _).trans rfl) zm_138 rfl rfl ?_
  refine zt (pc' := 2) ((zd_138 _).trans rfl) zm_138 rfl rfl ?_
  refine zt (pc' := 3) ((zd_138 _).trans rfl) zm_138 rfl rfl ?_
  refine zt_S (pc' := 6) ((zd_138 _).trans rfl) zm_138 rfl zq_7_70 (Nat.le_of_ble_eq_true rfl) (Nat.le_of_ble_eq_true rfl) rfl (c_isIn0 h) ?_
  refine zt_ifT (tgt := 26) (pc' := 9) ((zd_138 _).trans rfl) zm_138 rfl rfl (zeq rfl) ?_
  refine zt (pc' := 27) ((zd_138 _).trans rfl) zm_138 rfl rfl ?_
  exact zte ((zd_138 _).trans rfl) zm_138 rfl
