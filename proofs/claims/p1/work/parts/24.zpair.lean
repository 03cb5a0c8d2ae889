/-! one call on each of the two new objects: the same answer, and room (printed by wip/gen/pair.py) -/
def zRm (w : zW) : Prop := 1 ≤ w.2.1 ∧ w.2.1 ≤ 600000 ∧ w.2.2 ≤ 7302250 ∧ w.1 0 = none ∧ ∃ fs : List Value, w.1 9 = some (.inr (5, fs))
def zRmb (w : zW) : Bool := Nat.ble 1 w.2.1 && Nat.ble w.2.1 600000 && Nat.ble w.2.2 7302250 && (w.1 0).isNone && (match w.1 9 with
  | some (.inr (5, _)) => true
  | _ => false)
theorem zRm_ok {w : zW} (h : zRmb w = true) : zRm w := by
  unfold zRmb at h
  simp only [Bool.and_eq_true, Nat.ble_eq, Option.isNone_iff_eq_none] at h
  obtain ⟨⟨⟨⟨a1, a2⟩, a3⟩, a4⟩, a5⟩ := h
  refine ⟨a1, a2, a3, a4, ?_⟩
  split at a5
  · rename_i fs hw
    exact ⟨fs, hw⟩
  · cases a5
def zP (mc mr : Nat) (as : List Value) : Prop := ∃ (v : Int32) (w1 w2 : zW), zmet 40 mc (.ref 1 :: as) zx4 (some (.int v)) w1 ∧ zmet 40 mr (.ref 9 :: as) w1 (some (.int v)) w2 ∧ zRm w1 ∧ zRm w2
def zpk2 (mr mL : Nat) (as : List Value) (v : Int32) (w1 : zW) : Bool := match zrunT 1000000 40 mr 0 (zin mL (.ref 9 :: as)) [] w1 with
  | some (some (.int u), w2) => decide (v = u) && zRmb w1 && zRmb w2
  | _ => false
def zpk (mc nL mr mL : Nat) (as : List Value) : Bool := match zrunT 1000000 40 mc 0 (zin nL (.ref 1 :: as)) [] zx4 with
  | some (some (.int v), w1) => zpk2 mr mL as v w1
  | _ => false
theorem zpk_ok {mc nL mr mL o o' : Nat} {as : List Value} {y y' : MethodName} {b b' : ByteArray} {ret ret' : Option FieldType} {ini ini' : Bool} (hM : zMt[mc]? = some (y, b, nL, ret, o, ini)) (hM' : zMt[mr]? = some (y', b', mL, ret', o', ini')) (hl : (zen (.ref 1 :: as)).length ≤ nL) (hl' : (zen (.ref 9 :: as)).length ≤ mL) (h : zpk mc nL mr mL as = true) : zP mc mr as := by
  unfold zpk at h
  split at h
  · rename_i v w1 h1
    unfold zpk2 at h
    split at h
    · rename_i u w2 h2
      simp only [Bool.and_eq_true, decide_eq_true_eq] at h
      obtain ⟨⟨e, a1⟩, a2⟩ := h
      subst e
      exact ⟨v, w1, w2, ⟨_, hM, hl, _, zrunT_ok _ _ _ _ _ _ _ _ h1⟩, ⟨_, hM', hl', _, zrunT_ok _ _ _ _ _ _ _ _ h2⟩, zRm_ok a1, zRm_ok a2⟩
    · cases h
  · cases h
theorem zx4_Rm : zRm zx4 := zRm_ok (by decide +kernel)
theorem zP_to {mc mr : Nat} {as : List Value} {v : Int32} {w1 : zW} (h1 : zmet 40 mc (.ref 1 :: as) zx4 (some (.int v)) w1) (h2 : zmet 40 mr (.ref 9 :: as) w1 (some (.int v)) w1) (r : zRm w1) : zP mc mr as := ⟨v, w1, w1, h1, h2, r, r⟩
theorem zP_same {mc mr : Nat} {as : List Value} {v : Int32} (h1 : zmet 40 mc (.ref 1 :: as) zx4 (some (.int v)) zx4) (h2 : zmet 40 mr (.ref 9 :: as) zx4 (some (.int v)) zx4) : zP mc mr as := zP_to h1 h2 zx4_Rm
theorem zpk_begin {as : List Value} (hl : (zen (.ref 1 :: as)).length ≤ 3) (hl' : (zen (.ref 9 :: as)).length ≤ 4) (h : zpk 74 3 106 4 as = true) : zP 74 106 as := zpk_ok (mc := 74) (mr := 106) rfl rfl hl hl' h
theorem zpk_joint {as : List Value} (hl : (zen (.ref 1 :: as)).length ≤ 5) (hl' : (zen (.ref 9 :: as)).length ≤ 7) (h : zpk 86 5 141 7 as = true) : zP 86 141 as := zpk_ok (mc := 86) (mr := 141) rfl rfl hl hl' h
theorem zpk_bar {as : List Value} (hl : (zen (.ref 1 :: as)).length ≤ 3) (hl' : (zen (.ref 9 :: as)).length ≤ 7) (h : zpk 73 3 104 7 as = true) : zP 73 104 as := zpk_ok (mc := 73) (mr := 104) rfl rfl hl hl' h
theorem zpk_unbar {as : List Value} (hl : (zen (.ref 1 :: as)).length ≤ 1) (hl' : (zen (.ref 9 :: as)).length ≤ 1) (h : zpk 100 1 168 1 as = true) : zP 100 168 as := zpk_ok (mc := 100) (mr := 168) rfl rfl hl hl' h
theorem zpk_sign {as : List Value} (hl : (zen (.ref 1 :: as)).length ≤ 4) (hl' : (zen (.ref 9 :: as)).length ≤ 4) (h : zpk 95 4 159 4 as = true) : zP 95 159 as := zpk_ok (mc := 95) (mr := 159) rfl rfl hl hl' h
theorem zpk_count {as : List Value} (hl : (zen (.ref 1 :: as)).length ≤ 2) (hl' : (zen (.ref 9 :: as)).length ≤ 4) (h : zpk 79 2 115 4 as = true) : zP 79 115 as := zpk_ok (mc := 79) (mr := 115) rfl rfl hl hl' h
theorem zpk_end {as : List Value} (hl : (zen (.ref 1 :: as)).length ≤ 3) (hl' : (zen (.ref 9 :: as)).length ≤ 3) (h : zpk 80 3 117 3 as = true) : zP 80 117 as := zpk_ok (mc := 80) (mr := 117) rfl rfl hl hl' h
theorem zpk_at {as : List Value} (hl : (zen (.ref 1 :: as)).length ≤ 3) (hl' : (zen (.ref 9 :: as)).length ≤ 3) (h : zpk 72 3 103 3 as = true) : zP 72 103 as := zpk_ok (mc := 72) (mr := 103) rfl rfl hl hl' h
theorem zpk_rank {as : List Value} (hl : (zen (.ref 1 :: as)).length ≤ 4) (hl' : (zen (.ref 9 :: as)).length ≤ 3) (h : zpk 93 4 154 3 as = true) : zP 93 154 as := zpk_ok (mc := 93) (mr := 154) rfl rfl hl hl' h
theorem zpk_closure {as : List Value} (hl : (zen (.ref 1 :: as)).length ≤ 4) (hl' : (zen (.ref 9 :: as)).length ≤ 3) (h : zpk 76 4 111 3 as = true) : zP 76 111 as := zpk_ok (mc := 76) (mr := 111) rfl rfl hl hl' h
theorem zpk_implied {as : List Value} (hl : (zen (.ref 1 :: as)).length ≤ 6) (hl' : (zen (.ref 9 :: as)).length ≤ 5) (h : zpk 82 6 124 5 as = true) : zP 82 124 as := zpk_ok (mc := 82) (mr := 124) rfl rfl hl hl' h
theorem zpk_rigid {as : List Value} (hl : (zen (.ref 1 :: as)).length ≤ 3) (hl' : (zen (.ref 9 :: as)).length ≤ 2) (h : zpk 94 3 158 2 as = true) : zP 94 158 as := zpk_ok (mc := 94) (mr := 158) rfl rfl hl hl' h
theorem zpk_lacks {as : List Value} (hl : (zen (.ref 1 :: as)).length ≤ 3) (hl' : (zen (.ref 9 :: as)).length ≤ 6) (h : zpk 87 3 142 6 as = true) : zP 87 142 as := zpk_ok (mc := 87) (mr := 142) rfl rfl hl hl' h
theorem zpk_spare {as : List Value} (hl : (zen (.ref 1 :: as)).length ≤ 3) (hl' : (zen (.ref 9 :: as)).length ≤ 2) (h : zpk 96 3 160 2 as = true) : zP 96 160 as := zpk_ok (mc := 96) (mr := 160) rfl rfl hl hl' h
theorem zpk_many {as : List Value} (hl : (zen (.ref 1 :: as)).length ≤ 4) (hl' : (zen (.ref 9 :: as)).length ≤ 5) (h : zpk 90 4 144 5 as = true) : zP 90 144 as := zpk_ok (mc := 90) (mr := 144) rfl rfl hl hl' h
theorem zpk_told {as : List Value} (hl : (zen (.ref 1 :: as)).length ≤ 5) (hl' : (zen (.ref 9 :: as)).length ≤ 7) (h : zpk 99 5 166 7 as = true) : zP 99 166 as := zpk_ok (mc := 99) (mr := 166) rfl rfl hl hl' h
theorem zpk_coefficient {as : List Value} (hl : (zen (.ref 1 :: as)).length ≤ 5) (hl' : (zen (.ref 9 :: as)).length ≤ 6) (h : zpk 78 5 114 6 as = true) : zP 78 114 as := zpk_ok (mc := 78) (mr := 114) rfl rfl hl hl' h
theorem zpk_cluster {as : List Value} (hl : (zen (.ref 1 :: as)).length ≤ 4) (hl' : (zen (.ref 9 :: as)).length ≤ 8) (h : zpk 77 4 113 8 as = true) : zP 77 113 as := zpk_ok (mc := 77) (mr := 113) rfl rfl hl hl' h
theorem zpk_stressed {as : List Value} (hl : (zen (.ref 1 :: as)).length ≤ 6) (hl' : (zen (.ref 9 :: as)).length ≤ 4) (h : zpk 98 6 162 4 as = true) : zP 98 162 as := zpk_ok (mc := 98) (mr := 162) rfl rfl hl hl' h
theorem zpk_holds {as : List Value} (hl : (zen (.ref 1 :: as)).length ≤ 4) (hl' : (zen (.ref 9 :: as)).length ≤ 5) (h : zpk 81 4 123 5 as = true) : zP 81 123 as := zpk_ok (mc := 81) (mr := 123) rfl rfl hl hl' h
theorem zpk_built {as : List Value} (hl : (zen (.ref 1 :: as)).length ≤ 2) (hl' : (zen (.ref 9 :: as)).length ≤ 4) (h : zpk 75 2 107 4 as = true) : zP 75 107 as := zpk_ok (mc := 75) (mr := 107) rfl rfl hl hl' h
theorem zpk_oneShape {as : List Value} (hl : (zen (.ref 1 :: as)).length ≤ 3) (hl' : (zen (.ref 9 :: as)).length ≤ 4) (h : zpk 92 3 147 4 as = true) : zP 92 147 as := zpk_ok (mc := 92) (mr := 147) rfl rfl hl hl' h
theorem zc_begin_1 : zP 74 106 [.int 1] := zpk_begin (by decide) (by decide) (by decide +kernel)
theorem zc_begin_2 : zP 74 106 [.int 2] := zpk_begin (by decide) (by decide) (by decide +kernel)
theorem zc_begin_3 : zP 74 106 [.int 3] := zpk_begin (by decide) (by decide) (by decide +kernel)
theorem zc_begin_4 : zP 74 106 [.int 4] := zpk_begin (by decide) (by decide) (by decide +kernel)
theorem zc_begin_5 : zP 74 106 [.int 5] := zpk_begin (by decide) (by decide) (by decide +kernel)
theorem zc_begin_6 : zP 74 106 [.int 6] := zpk_begin (by decide) (by decide) (by decide +kernel)
theorem zc_begin_7 : zP 74 106 [.int 7] := zpk_begin (by decide) (by decide) (by decide +kernel)
theorem zc_unbar : zP 100 168 [] := zpk_unbar (by decide) (by decide) (by decide +kernel)
theorem zc_count_0 : zP 79 115 [.int 0] := zpk_count (by decide) (by decide) (by decide +kernel)
theorem zc_count_1 : zP 79 115 [.int 1] := zpk_count (by decide) (by decide) (by decide +kernel)
theorem zc_count_2 : zP 79 115 [.int 2] := zpk_count (by decide) (by decide) (by decide +kernel)
theorem zc_count_3 : zP 79 115 [.int 3] := zpk_count (by decide) (by decide) (by decide +kernel)
theorem zc_at_0_0 : zP 72 103 [.int 0, .int 0] := zpk_at (by decide) (by decide) (by decide +kernel)
theorem zc_at_0_1 : zP 72 103 [.int 0, .int 1] := zpk_at (by decide) (by decide) (by decide +kernel)
theorem zc_at_0_2 : zP 72 103 [.int 0, .int 2] := zpk_at (by decide) (by decide) (by decide +kernel)
theorem zc_rank_0_0 : zP 93 154 [.int 0, .int 0] := zpk_rank (by decide) (by decide) (by decide +kernel)
theorem zc_rank_1_0 : zP 93 154 [.int 1, .int 0] := zpk_rank (by decide) (by decide) (by decide +kernel)
theorem zc_rank_2_0 : zP 93 154 [.int 2, .int 0] := zpk_rank (by decide) (by decide) (by decide +kernel)
theorem zc_built_0 : zP 75 107 [.int 0] := zpk_built (by decide) (by decide) (by decide +kernel)
theorem zc_oneShape : zP 92 147 [] := zpk_oneShape (by decide) (by decide) (by decide +kernel)
