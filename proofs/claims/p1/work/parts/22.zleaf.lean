/-! walks by the tables, and the small methods of both sides (printed by wip/gen/leaf.py) -/
section ZT
variable {d mi pc len mL o : Nat} {L L' : zL} {st st' rr : List Value} {w w1 w' : zW} {r : Option Value} {y : MethodName} {b : ByteArray} {ret : Option FieldType} {ini : Bool} {i : Instr} {pc' tgt : Nat}
theorem zt (hd : zdec mi pc = some (i, len)) (hM : zMt[mi]? = some (y, b, mL, ret, o, ini)) (he : zend ret i len st = none) (ha : zA mL i len pc L st = some (pc', L', st')) (k : zev d mi pc' L' st' w r w') : zev d mi pc L st w r w' := zev_A hM (zdec_ok hM hd) he ha k
theorem zte {r' : Option Value} (hd : zdec mi pc = some (i, len)) (hM : zMt[mi]? = some (y, b, mL, ret, o, ini)) (he : zend ret i len st = some r') : zev d mi pc L st w r' w := zev_end hM (zdec_ok hM hd) he
theorem zt_ifT {c : Jvm.ClassFile.Cond} {off : Int} {x : Int32} (hd : zdec mi pc = some (.ifCond c off, 3)) (hM : zMt[mi]? = some (y, b, mL, ret, o, ini)) (ht : (pc : Int) + off = (tgt : Int)) (_hp : pc + 3 = pc') (hv : zcc c x 0 = true) (k : zev d mi tgt L rr w r w') : zev d mi pc L (.int x :: rr) w r w' := zev_if tgt hM (zdec_ok hM hd) ht (fun _ => k) (fun h => by rw [hv] at h; cases h)
theorem zt_ifF {c : Jvm.ClassFile.Cond} {off : Int} {x : Int32} (hd : zdec mi pc = some (.ifCond c off, 3)) (hM : zMt[mi]? = some (y, b, mL, ret, o, ini)) (ht : (pc : Int) + off = (tgt : Int)) (hp : pc + 3 = pc') (hv : zcc c x 0 = false) (k : zev d mi pc' L rr w r w') : zev d mi pc L (.int x :: rr) w r w' := zev_if tgt hM (zdec_ok hM hd) ht (fun h => by rw [hv] at h; cases h) (fun _ => hp ▸ k)
theorem zt_icT {c : Jvm.ClassFile.Cond} {off : Int} {x z : Int32} (hd : zdec mi pc = some (.if_icmp c off, 3)) (hM : zMt[mi]? = some (y, b, mL, ret, o, ini)) (ht : (pc : Int) + off = (tgt : Int)) (_hp : pc + 3 = pc') (hv : zcc c x z = true) (k : zev d mi tgt L rr w r w') : zev d mi pc L (.int z :: .int x :: rr) w r w' := zev_ic tgt hM (zdec_ok hM hd) ht (fun _ => k) (fun h => by rw [hv] at h; cases h)
theorem zt_icF {c : Jvm.ClassFile.Cond} {off : Int} {x z : Int32} (hd : zdec mi pc = some (.if_icmp c off, 3)) (hM : zMt[mi]? = some (y, b, mL, ret, o, ini)) (ht : (pc : Int) + off = (tgt : Int)) (hp : pc + 3 = pc') (hv : zcc c x z = false) (k : zev d mi pc' L rr w r w') : zev d mi pc L (.int z :: .int x :: rr) w r w' := zev_ic tgt hM (zdec_ok hM hd) ht (fun h => by rw [hv] at h; cases h) (fun _ => hp ▸ k)
theorem zt_get {idx a ci k : Nat} {fs : List Value} {cs : List Nat} {v : Value} (hd : zdec mi pc = some (.getfield idx, 3)) (hM : zMt[mi]? = some (y, b, mL, ret, o, ini)) (hf : zfl o idx = some (k, cs)) (hp : pc + 3 = pc') (ha : w.1 a = some (.inr (ci, fs))) (hc : ci ∈ cs) (hv : fs[k]? = some v) (kk : zev d mi pc' L (v :: rr) w r w') : zev d mi pc L (.ref a :: rr) w r w' := zev_get hM (zdec_ok hM hd) hf ha hc hv (hp ▸ kk)
theorem zt_V {idx k0 c0 m0 n bb ci kd mj : Nat} {fs as : List Value} {v : Option Value} (hd : zdec mi pc = some (.invokevirtual idx, 3)) (hM : zMt[mi]? = some (y, b, mL, ret, o, ini)) (hp : pc + 3 = pc') (hcl : zcl o idx = some (k0, c0, m0, n)) (hst : st.drop n = .ref bb :: rr) (h8 : zsum (st.drop (n + 1)) ≤ 8) (hb : w.1 bb = some (.inr (ci, fs))) (hv : zclv o idx ci = some (kd, ci, mj, n)) (hk : kd = 3 ∨ kd = 4 ∨ kd = 5) (has : .ref bb :: (st.take n).reverse = as) (hm : zmet d mj as w v w1) (k : zev (d + 1) mi pc' L (v.toList ++ rr) w1 r w') : zev (d + 1) mi pc L st w r w' := by
  subst hp
  subst has
  refine zev_call hM (zdec_ok hM hd) rfl rfl rfl ?_ hm k
  simp only [zcall, hcl, h8, hst, hb, hv, hk]
  simp
theorem zt_S {idx c0 n mj : Nat} {as : List Value} {v : Option Value} (hd : zdec mi pc = some (.invokestatic idx, 3)) (hM : zMt[mi]? = some (y, b, mL, ret, o, ini)) (hp : pc + 3 = pc') (hcl : zcl o idx = some (2, c0, mj, n)) (hn : n ≤ st.length) (h8 : zsum (st.drop n) ≤ 8) (has : (st.take n).reverse = as) (hm : zmet d mj as w v w1) (k : zev (d + 1) mi pc' L (v.toList ++ st.drop n) w1 r w') : zev (d + 1) mi pc L st w r w' := by
  subst hp
  subst has
  have hc : zcall o (.invokestatic idx) 3 st w = some (mj, (st.take n).reverse, st.drop n) := by
    simp only [zcall, hcl, hn, h8]
    simp
  exact zev_call hM (zdec_ok hM hd) rfl rfl ((zcall_ex hc).2.2 _ _ _ _ _ _) hc hm k
theorem zcF {c : Jvm.ClassFile.Cond} {x y : Int32} {v : Bool} (h : zcc c x y = v) : zcc c x y = v := h
end ZT
/-- bounds -/
theorem zlt {x y : Int32} (h : x < y) : zcc .lt x y = true := by simp [zcc, h]
theorem znlt {x y : Int32} (h : ¬ x < y) : zcc .lt x y = false := by simp [zcc, h]
theorem zge {x y : Int32} (h : y ≤ x) : zcc .ge x y = true := by simp [zcc, h]
theorem znge {x y : Int32} (h : ¬ y ≤ x) : zcc .ge x y = false := by simp [zcc, h]
theorem zgt {x y : Int32} (h : y < x) : zcc .gt x y = true := by simp [zcc, h]
theorem zngt {x y : Int32} (h : ¬ y < x) : zcc .gt x y = false := by simp [zcc, h]
theorem zle' {x y : Int32} (h : x ≤ y) : zcc .le x y = true := by simp [zcc, h]
theorem znle {x y : Int32} (h : ¬ x ≤ y) : zcc .le x y = false := by simp [zcc, h]
theorem zeq {x y : Int32} (h : x = y) : zcc .eq x y = true := by simp [zcc, h]
theorem zneq {x y : Int32} (h : ¬ x = y) : zcc .eq x y = false := by simp [zcc, h]
theorem zne {x y : Int32} (h : ¬ x = y) : zcc .ne x y = true := by simp [zcc, h]
theorem znne {x y : Int32} (h : x = y) : zcc .ne x y = false := by simp [zcc, h]
theorem zm_9 : zMt[9]? = some (yX1_allBars, cX1_allBars, 1, (some .int), 1, false) := rfl
theorem zd_9 (pc : Nat) : zdec 9 pc = zdl_9.lookup pc := rfl
theorem zm_14 : zMt[14]? = some (yX1_hasBar, cX1_hasBar, 2, (some .boolean), 1, false) := rfl
theorem zd_14 (pc : Nat) : zdec 14 pc = zdl_14.lookup pc := rfl
theorem zm_15 : zMt[15]? = some (yX1_hasJoint, cX1_hasJoint, 2, (some .boolean), 1, false) := rfl
theorem zd_15 (pc : Nat) : zdec 15 pc = zdl_15.lookup pc := rfl
theorem zm_16 : zMt[16]? = some (yX1_hasSet, cX1_hasSet, 2, (some .boolean), 1, false) := rfl
theorem zd_16 (pc : Nat) : zdec 16 pc = zdl_16.lookup pc := rfl
theorem zm_131 : zMt[131]? = some (yX7_isIn, cX7_isIn, 3, (some .boolean), 7, false) := rfl
theorem zd_131 (pc : Nat) : zdec 131 pc = zdl_131.lookup pc := rfl
theorem c_isIn1 {d : Nat} {w : zW} {v lo hi : Int32} (h1 : ¬ v < lo) (h2 : ¬ hi < v) : zmet (d) 131 [.int v, .int lo, .int hi] w (some (.int 1)) w := by
  refine ⟨_, rfl, Nat.le_of_ble_eq_true rfl, ?_⟩
  show zev (d) 131 0 [some (.int v), some (.int lo), some (.int hi)] [] w _ _
  refine zt (pc' := 1) ((zd_131 _).trans rfl) zm_131 rfl rfl ?_
  refine zt (pc' := 2) ((zd_131 _).trans rfl) zm_131 rfl rfl ?_
  refine zt_icF (tgt := 14) (pc' := 5) ((zd_131 _).trans rfl) zm_131 rfl rfl (znlt h1) ?_
  refine zt (pc' := 6) ((zd_131 _).trans rfl) zm_131 rfl rfl ?_
  refine zt (pc' := 7) ((zd_131 _).trans rfl) zm_131 rfl rfl ?_
  refine zt_icF (tgt := 14) (pc' := 10) ((zd_131 _).trans rfl) zm_131 rfl rfl (zngt h2) ?_
  refine zt (pc' := 11) ((zd_131 _).trans rfl) zm_131 rfl rfl ?_
  refine zt (pc' := 15) ((zd_131 _).trans rfl) zm_131 rfl rfl ?_
  exact zte ((zd_131 _).trans rfl) zm_131 rfl
theorem c_isIn0 {d : Nat} {w : zW} {v lo hi : Int32} (h : v < lo ∨ hi < v) : zmet d 131 [.int v, .int lo, .int hi] w (some (.int 0)) w := by
  refine ⟨_, rfl, Nat.le_of_ble_eq_true rfl, ?_⟩
  show zev d 131 0 [some (.int v), some (.int lo), some (.int hi)] [] w _ _
  by_cases h1 : v < lo
  · refine zt (pc' := 1) ((zd_131 _).trans rfl) zm_131 rfl rfl ?_
    refine zt (pc' := 2) ((zd_131 _).trans rfl) zm_131 rfl rfl ?_
    refine zt_icT (tgt := 14) (pc' := 5) ((zd_131 _).trans rfl) zm_131 rfl rfl (zlt h1) ?_
    refine zt (pc' := 15) ((zd_131 _).trans rfl) zm_131 rfl rfl ?_
    exact zte ((zd_131 _).trans rfl) zm_131 rfl
  · have h2 : hi < v := by exact h.resolve_left h1
    refine zt (pc' := 1) ((zd_131 _).trans rfl) zm_131 rfl rfl ?_
    refine zt (pc' := 2) ((zd_131 _).trans rfl) zm_131 rfl rfl ?_
    refine zt_icF (tgt := 14) (pc' := 5) ((zd_131 _).trans rfl) zm_131 rfl rfl (znlt h1) ?_
    refine zt (pc' := 6) ((zd_131 _).trans rfl) zm_131 rfl rfl ?_
    refine zt (pc' := 7) ((zd_131 _).trans rfl) zm_131 rfl rfl ?_
    refine zt_icT (tgt := 14) (pc' := 10) ((zd_131 _).trans rfl) zm_131 rfl rfl (zgt h2) ?_
    refine zt (pc' := 15) ((zd_131 _).trans rfl) zm_131 rfl rfl ?_
    exact zte ((zd_131 _).trans rfl) zm_131 rfl
theorem c_hasJoint1 {d : Nat} {w : zW} {a : Nat} {p0 p1 p2 p3 : Value} {v j bs ve : Int32} (hF : w.1 a = some (.inr (1, [p0, p1, p2, p3, .int j, .int bs, .int ve]))) (h1 : ¬ v < 0) (h2 : ¬ j ≤ v) : zmet (d) 15 [.ref a, .int v] w (some (.int 1)) w := by
  refine ⟨_, rfl, Nat.le_of_ble_eq_true rfl, ?_⟩
  show zev (d) 15 0 [some (.ref a), some (.int v)] [] w _ _
  refine zt (pc' := 1) ((zd_15 _).trans rfl) zm_15 rfl rfl ?_
  refine zt_ifF (tgt := 16) (pc' := 4) ((zd_15 _).trans rfl) zm_15 rfl rfl (znlt h1) ?_
  refine zt (pc' := 5) ((zd_15 _).trans rfl) zm_15 rfl rfl ?_
  refine zt (pc' := 6) ((zd_15 _).trans rfl) zm_15 rfl rfl ?_
  refine zt_get (pc' := 9) ((zd_15 _).trans rfl) zm_15 rfl rfl hF (by decide) rfl ?_
  refine zt_icF (tgt := 16) (pc' := 12) ((zd_15 _).trans rfl) zm_15 rfl rfl (znge h2) ?_
  refine zt (pc' := 13) ((zd_15 _).trans rfl) zm_15 rfl rfl ?_
  refine zt (pc' := 17) ((zd_15 _).trans rfl) zm_15 rfl rfl ?_
  exact zte ((zd_15 _).trans rfl) zm_15 rfl
theorem c_hasJoint0 {d : Nat} {w : zW} {a : Nat} {p0 p1 p2 p3 : Value} {v j bs ve : Int32} (hF : w.1 a = some (.inr (1, [p0, p1, p2, p3, .int j, .int bs, .int ve]))) (h : v < 0 ∨ j ≤ v) : zmet d 15 [.ref a, .int v] w (some (.int 0)) w := by
  refine ⟨_, rfl, Nat.le_of_ble_eq_true rfl, ?_⟩
  show zev d 15 0 [some (.ref a), some (.int v)] [] w _ _
  by_cases h1 : v < 0
  · refine zt (pc' := 1) ((zd_15 _).trans rfl) zm_15 rfl rfl ?_
    refine zt_ifT (tgt := 16) (pc' := 4) ((zd_15 _).trans rfl) zm_15 rfl rfl (zlt h1) ?_
    refine zt (pc' := 17) ((zd_15 _).trans rfl) zm_15 rfl rfl ?_
    exact zte ((zd_15 _).trans rfl) zm_15 rfl
  · have h2 : j ≤ v := by exact h.resolve_left h1
    refine zt (pc' := 1) ((zd_15 _).trans rfl) zm_15 rfl rfl ?_
    refine zt_ifF (tgt := 16) (pc' := 4) ((zd_15 _).trans rfl) zm_15 rfl rfl (znlt h1) ?_
    refine zt (pc' := 5) ((zd_15 _).trans rfl) zm_15 rfl rfl ?_
    refine zt (pc' := 6) ((zd_15 _).trans rfl) zm_15 rfl rfl ?_
    refine zt_get (pc' := 9) ((zd_15 _).trans rfl) zm_15 rfl rfl hF (by decide) rfl ?_
    refine zt_icT (tgt := 16) (pc' := 12) ((zd_15 _).trans rfl) zm_15 rfl rfl (zge h2) ?_
    refine zt (pc' := 17) ((zd_15 _).trans rfl) zm_15 rfl rfl ?_
    exact zte ((zd_15 _).trans rfl) zm_15 rfl
theorem c_hasBar1 {d : Nat} {w : zW} {a : Nat} {p0 p1 p2 p3 : Value} {v j bs ve : Int32} (hF : w.1 a = some (.inr (1, [p0, p1, p2, p3, .int j, .int bs, .int ve]))) (h1 : ¬ v < 0) (h2 : ¬ bs ≤ v) : zmet (d) 14 [.ref a, .int v] w (some (.int 1)) w := by
  refine ⟨_, rfl, Nat.le_of_ble_eq_true rfl, ?_⟩
  show zev (d) 14 0 [some (.ref a), some (.int v)] [] w _ _
  refine zt (pc' := 1) ((zd_14 _).trans rfl) zm_14 rfl rfl ?_
  refine zt_ifF (tgt := 16) (pc' := 4) ((zd_14 _).trans rfl) zm_14 rfl rfl (znlt h1) ?_
  refine zt (pc' := 5) ((zd_14 _).trans rfl) zm_14 rfl rfl ?_
  refine zt (pc' := 6) ((zd_14 _).trans rfl) zm_14 rfl rfl ?_
  refine zt_get (pc' := 9) ((zd_14 _).trans rfl) zm_14 rfl rfl hF (by decide) rfl ?_
  refine zt_icF (tgt := 16) (pc' := 12) ((zd_14 _).trans rfl) zm_14 rfl rfl (znge h2) ?_
  refine zt (pc' := 13) ((zd_14 _).trans rfl) zm_14 rfl rfl ?_
  refine zt (pc' := 17) ((zd_14 _).trans rfl) zm_14 rfl rfl ?_
  exact zte ((zd_14 _).trans rfl) zm_14 rfl
theorem c_hasBar0 {d : Nat} {w : zW} {a : Nat} {p0 p1 p2 p3 : Value} {v j bs ve : Int32} (hF : w.1 a = some (.inr (1, [p0, p1, p2, p3, .int j, .int bs, .int ve]))) (h : v < 0 ∨ bs ≤ v) : zmet d 14 [.ref a, .int v] w (some (.int 0)) w := by
  refine ⟨_, rfl, Nat.le_of_ble_eq_true rfl, ?_⟩
  show zev d 14 0 [some (.ref a), some (.int v)] [] w _ _
  by_cases h1 : v < 0
  · refine zt (pc' := 1) ((zd_14 _).trans rfl) zm_14 rfl rfl ?_
    refine zt_ifT (tgt := 16) (pc' := 4) ((zd_14 _).trans rfl) zm_14 rfl rfl (zlt h1) ?_
    refine zt (pc' := 17) ((zd_14 _).trans rfl) zm_14 rfl rfl ?_
    exact zte ((zd_14 _).trans rfl) zm_14 rfl
  · have h2 : bs ≤ v := by exact h.resolve_left h1
    refine zt (pc' := 1) ((zd_14 _).trans rfl) zm_14 rfl rfl ?_
    refine zt_ifF (tgt := 16) (pc' := 4) ((zd_14 _).trans rfl) zm_14 rfl rfl (znlt h1) ?_
    refine zt (pc' := 5) ((zd_14 _).trans rfl) zm_14 rfl rfl ?_
    refine zt (pc' := 6) ((zd_14 _).trans rfl) zm_14 rfl rfl ?_
    refine zt_get (pc' := 9) ((zd_14 _).trans rfl) zm_14 rfl rfl hF (by decide) rfl ?_
    refine zt_icT (tgt := 16) (pc' := 12) ((zd_14 _).trans rfl) zm_14 rfl rfl (zge h2) ?_
    refine zt (pc' := 17) ((zd_14 _).trans rfl) zm_14 rfl rfl ?_
    exact zte ((zd_14 _).trans rfl) zm_14 rfl
theorem c_allBars {d : Nat} {w : zW} {a : Nat} {p0 p1 p2 p3 : Value} {j bs ve : Int32} (hF : w.1 a = some (.inr (1, [p0, p1, p2, p3, .int j, .int bs, .int ve]))) : zmet (d) 9 [.ref a] w (some (.int (1 <<< (bs &&& 31) - 1))) w := by
  refine ⟨_, rfl, Nat.le_of_ble_eq_true rfl, ?_⟩
  show zev (d) 9 0 [some (.ref a)] [] w _ _
  refine zt (pc' := 1) ((zd_9 _).trans rfl) zm_9 rfl rfl ?_
  refine zt (pc' := 2) ((zd_9 _).trans rfl) zm_9 rfl rfl ?_
  refine zt_get (pc' := 5) ((zd_9 _).trans rfl) zm_9 rfl rfl hF (by decide) rfl ?_
  refine zt (pc' := 6) ((zd_9 _).trans rfl) zm_9 rfl rfl ?_
  refine zt (pc' := 7) ((zd_9 _).trans rfl) zm_9 rfl rfl ?_
  refine zt (pc' := 8) ((zd_9 _).trans rfl) zm_9 rfl rfl ?_
  exact zte ((zd_9 _).trans rfl) zm_9 rfl
theorem c_hasSet1 {d : Nat} {w : zW} {a : Nat} {p0 p1 p2 p3 : Value} {v j bs ve : Int32} (hF : w.1 a = some (.inr (1, [p0, p1, p2, p3, .int j, .int bs, .int ve]))) (h1 : ¬ v < 0) (h2 : ¬ 1 <<< (bs &&& 31) - 1 < v) : zmet (d + 1) 16 [.ref a, .int v] w (some (.int 1)) w := by
  refine ⟨_, rfl, Nat.le_of_ble_eq_true rfl, ?_⟩
  show zev (d + 1) 16 0 [some (.ref a), some (.int v)] [] w _ _
  refine zt (pc' := 1) ((zd_16 _).trans rfl) zm_16 rfl rfl ?_
  refine zt_ifF (tgt := 16) (pc' := 4) ((zd_16 _).trans rfl) zm_16 rfl rfl (znlt h1) ?_
  refine zt (pc' := 5) ((zd_16 _).trans rfl) zm_16 rfl rfl ?_
  refine zt (pc' := 6) ((zd_16 _).trans rfl) zm_16 rfl rfl ?_
  refine zt_V (pc' := 9) ((zd_16 _).trans rfl) zm_16 rfl rfl rfl (Nat.le_of_ble_eq_true rfl) hF rfl (by decide) rfl (c_allBars hF) ?_
  refine zt_icF (tgt := 16) (pc' := 12) ((zd_16 _).trans rfl) zm_16 rfl rfl (zngt h2) ?_
  refine zt (pc' := 13) ((zd_16 _).trans rfl) zm_16 rfl rfl ?_
  refine zt (pc' := 17) ((zd_16 _).trans rfl) zm_16 rfl rfl ?_
  exact zte ((zd_16 _).trans rfl) zm_16 rfl
theorem c_hasSet0 {d : Nat} {w : zW} {a : Nat} {p0 p1 p2 p3 : Value} {v j bs ve : Int32} (hF : w.1 a = some (.inr (1, [p0, p1, p2, p3, .int j, .int bs, .int ve]))) (h : v < 0 ∨ 1 <<< (bs &&& 31) - 1 < v) : zmet (d + 1) 16 [.ref a, .int v] w (some (.int 0)) w := by
  refine ⟨_, rfl, Nat.le_of_ble_eq_true rfl, ?_⟩
  show zev (d + 1) 16 0 [some (.ref a), some (.int v)] [] w _ _
  by_cases h1 : v < 0
  · refine zt (pc' := 1) ((zd_16 _).trans rfl) zm_16 rfl rfl ?_
    refine zt_ifT (tgt := 16) (pc' := 4) ((zd_16 _).trans rfl) zm_16 rfl rfl (zlt h1) ?_
    refine zt (pc' := 17) ((zd_16 _).trans rfl) zm_16 rfl rfl ?_
    exact zte ((zd_16 _).trans rfl) zm_16 rfl
  · have h2 : 1 <<< (bs &&& 31) - 1 < v := by exact h.resolve_left h1
    refine zt (pc' := 1) ((zd_16 _).trans rfl) zm_16 rfl rfl ?_
    refine zt_ifF (tgt := 16) (pc' := 4) ((zd_16 _).trans rfl) zm_16 rfl rfl (znlt h1) ?_
    refine zt (pc' := 5) ((zd_16 _).trans rfl) zm_16 rfl rfl ?_
    refine zt (pc' := 6) ((zd_16 _).trans rfl) zm_16 rfl rfl ?_
    refine zt_V (pc' := 9) ((zd_16 _).trans rfl) zm_16 rfl rfl rfl (Nat.le_of_ble_eq_true rfl) hF rfl (by decide) rfl (c_allBars hF) ?_
    refine zt_icT (tgt := 16) (pc' := 12) ((zd_16 _).trans rfl) zm_16 rfl rfl (zgt h2) ?_
    refine zt (pc' := 17) ((zd_16 _).trans rfl) zm_16 rfl rfl ?_
    exact zte ((zd_16 _).trans rfl) zm_16 rfl
