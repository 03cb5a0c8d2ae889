/-! the two new objects, in a world of their own -/
def zKw (q : Option (Option Value × zW)) : zW := match q with
  | some (_, w) => w
  | none => (fun _ => none, 0, 0)
def zKr (q : Option (Option Value × zW)) (r : Option Value) : Bool := match q with
  | some (v, _) => decide (v = r)
  | none => false
theorem zKw_ok {q : Option (Option Value × zW)} {r : Option Value} (h : zKr q r = true) : q = some (r, zKw q) := by
  cases q with
  | none => cases h
  | some x => obtain ⟨v, w⟩ := x; simp only [zKr, decide_eq_true_eq] at h; subst h; rfl
def zobj (w : zW) (a ci : Nat) (fs : List Value) : Bool := match w.1 a with
  | some (.inr (c, gs)) => decide (c = ci) && decide (gs = fs)
  | _ => false
theorem zobj_ok {w : zW} {a ci : Nat} {fs : List Value} (h : zobj w a ci fs = true) : w.1 a = some (.inr (ci, fs)) := by
  unfold zobj at h
  split at h
  · rename_i hw
    simp only [Bool.and_eq_true, decide_eq_true_eq] at h
    rw [hw, h.1, h.2]
  · cases h
theorem zmetK {f d mi : Nat} {as : List Value} {w : zW} {r : Option Value} {mL o : Nat} {y : MethodName} {b : ByteArray} {ret : Option FieldType} {ini : Bool} (hM : zMt[mi]? = some (y, b, mL, ret, o, ini)) (hl : (zen as).length ≤ mL) (h : zKr (zrunT f d mi 0 (zin mL as) [] w) r = true) : zmet d mi as w r (zKw (zrunT f d mi 0 (zin mL as) [] w)) :=
  ⟨_, hM, hl, f, zrunT_ok f _ _ _ _ _ _ _ (zKw_ok h)⟩
theorem zmet_ov {B : Nat → Option va_E} {d mi : Nat} {as : List Value} {w w1 : zW} {r : Option Value} (hn : 1 ≤ w.2.1) (h : zmet d mi as w r w1) : zmet d mi as (zov B w) r (zov B w1) := by
  obtain ⟨M, hM, hl, f, hf⟩ := h
  exact ⟨M, hM, hl, f, zrun_ov hn hf⟩
theorem zt_P {d mi pc len mL o : Nat} {L : zL} {st rr : List Value} {w w1 w' : zW} {r : Option Value} {y : MethodName} {b : ByteArray} {ret : Option FieldType} {ini : Bool} {pc' : Nat} {idx kd c0 n mj bb : Nat} {as : List Value} {v : Option Value} (hd : zdec mi pc = some (.invokespecial idx, 3)) (hM : zMt[mi]? = some (y, b, mL, ret, o, ini)) (hp : pc + 3 = pc') (hcl : zcl o idx = some (kd, c0, mj, n)) (hk : kd = 0 ∨ kd = 1) (hst : st.drop n = .ref bb :: rr) (h8 : zsum (st.drop (n + 1)) ≤ 8) (has : .ref bb :: (st.take n).reverse = as) (hm : zmet d mj as w v w1) (k : zev (d + 1) mi pc' L (v.toList ++ rr) w1 r w') : zev (d + 1) mi pc L st w r w' := by
  subst hp
  subst has
  have hc : zcall o (.invokespecial idx) 3 st w = some (mj, .ref bb :: (st.take n).reverse, rr) := by
    simp only [zcall, hcl, hst, h8, hk]
    simp
  exact zev_call hM (zdec_ok hM hd) rfl rfl ((zcall_ex hc).2.2 _ _ _ _ _ _) hc hm k
theorem zt_new {d mi pc mL o : Nat} {L : zL} {st : List Value} {w w' : zW} {r : Option Value} {y : MethodName} {b : ByteArray} {ret : Option FieldType} {ini : Bool} {pc' : Nat} {idx ci : Nat} (hd : zdec mi pc = some (.new idx, 3)) (hM : zMt[mi]? = some (y, b, mL, ret, o, ini)) (hp : pc + 3 = pc') (hc : zck o idx = some ci) (k : zev d mi pc' L (.ref w.2.1 :: st) (va_up w.1 w.2.1 (some (.inr (ci, zdf ci))), w.2.1 + 1, w.2.2 + (ztab ci).2.2) r w') : zev d mi pc L st w r w' := by
  subst hp
  exact zev_H hM (zdec_ok hM hd) rfl rfl (by simp only [zH, zHnew, hc]; simp) k
def zx0 : zW := (fun _ => none, 1, 0)
def zx1 : zW := (va_up zx0.1 1 (some (.inr (4, zdf 4))), 2, 0 + (ztab 4).2.2)
def zx2 : zW := zKw (zrunT 3000 40 83 0 (zin 1 [.ref 1]) [] zx1)
def zx3 : zW := (va_up zx2.1 9 (some (.inr (5, zdf 5))), 9 + 1, zx2.2.2 + (ztab 5).2.2)
def zx4 : zW := zKw (zrunT 3000 40 125 0 (zin 1 [.ref 9]) [] zx3)
theorem zx2_n : zx2.2.1 = 9 := by decide +kernel
theorem zm_83 : zMt[83]? = some (yX6_init, cX6_init, 1, none, 6, true) := rfl
theorem zm_125 : zMt[125]? = some (yX7_init, cX7_init, 1, none, 7, true) := rfl
theorem zx_R : zmet 40 83 [.ref 1] zx1 none zx2 := zmetK zm_83 (by decide) (by decide +kernel)
theorem zx_M : zmet 40 125 [.ref 9] zx3 none zx4 := zmetK zm_125 (by decide) (by decide +kernel)
theorem zx4_n : 1 ≤ zx4.2.1 := by decide +kernel
theorem zx4_1 : zx4.1 1 = some (.inr (4, [.ref 2, .ref 7, .ref 8])) := zobj_ok (by decide +kernel)
theorem zx4_2 : zx4.1 2 = some (.inr (1, [.ref 3, .ref 4, .ref 5, .ref 6, .int 1, .int 0, .int 1])) := zobj_ok (by decide +kernel)
theorem zx4_9 : ∃ p ms, zx4.1 9 = some (.inr (5, .int 1 :: p :: .int 0 :: ms)) := by
  have h : (match zx4.1 9 with | some (.inr (5, .int 1 :: _ :: .int 0 :: _)) => true | _ => false) = true := by decide +kernel
  split at h
  · rename_i p ms hw
    exact ⟨p, ms, hw⟩
  · cases h
