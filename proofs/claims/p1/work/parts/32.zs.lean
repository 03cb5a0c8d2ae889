/-! told, cluster, built: any arguments (printed by wip/gen/ref4.py) -/
theorem zm_4 : zMt[4]? = some (yX0_link, cX0_link, 3, none, 0, false) := rfl
theorem zd_4 (pc : Nat) : zdec 4 pc = zdl_4.lookup pc := rfl
theorem zm_29 : zMt[29]? = some (yX2_gatherParts, cX2_gatherParts, 3, none, 2, false) := rfl
theorem zd_29 (pc : Nat) : zdec 29 pc = zdl_29.lookup pc := rfl
theorem zm_36 : zMt[36]? = some (yX2_isCluster, cX2_isCluster, 3, (some .boolean), 2, false) := rfl
theorem zd_36 (pc : Nat) : zdec 36 pc = zdl_36.lookup pc := rfl
theorem zm_39 : zMt[39]? = some (yX2_isOfKind, cX2_isOfKind, 3, (some .boolean), 2, false) := rfl
theorem zd_39 (pc : Nat) : zdec 39 pc = zdl_39.lookup pc := rfl
theorem zm_52 : zMt[52]? = some (yX3_link, cX3_link, 4, none, 3, false) := rfl
theorem zd_52 (pc : Nat) : zdec 52 pc = zdl_52.lookup pc := rfl
theorem zm_119 : zMt[119]? = some (yX7_findParts, cX7_findParts, 4, none, 7, false) := rfl
theorem zd_119 (pc : Nat) : zdec 119 pc = zdl_119.lookup pc := rfl
theorem zm_127 : zMt[127]? = some (yX7_isBuilt, cX7_isBuilt, 4, (some .boolean), 7, false) := rfl
theorem zd_127 (pc : Nat) : zdec 127 pc = zdl_127.lookup pc := rfl
theorem zm_133 : zMt[133]? = some (yX7_isKind, cX7_isKind, 7, (some .boolean), 7, false) := rfl
theorem zd_133 (pc : Nat) : zdec 133 pc = zdl_133.lookup pc := rfl
theorem zm_148 : zMt[148]? = some (yX7_ones, cX7_ones, 3, (some .int), 7, false) := rfl
theorem zd_148 (pc : Nat) : zdec 148 pc = zdl_148.lookup pc := rfl
def zkZ (w : zW) (za ci : Nat) : Bool := match w.1 za with
  | some (.inr (c, .ref 2 :: _)) => decide (c = ci)
  | _ => false
theorem zkZ_ok {w : zW} {za ci : Nat} (h : zkZ w za ci = true) : ∃ g : List Value, w.1 za = some (.inr (ci, .ref 2 :: g)) := by
  unfold zkZ at h
  split at h
  · rename_i c g hw
    have e := of_decide_eq_true h
    subst e
    exact ⟨g, hw⟩
  · cases h
def zkM (w : zW) : Bool := match w.1 9 with
  | some (.inr (5, .int 1 :: _ :: .int 0 :: m)) => decide (m.length = 21)
  | _ => false
theorem zkM_ok {w : zW} (h : zkM w = true) : ∃ (l : Value) (m : List Value), w.1 9 = some (.inr (5, .int 1 :: l :: .int 0 :: m)) ∧ m.length = 21 := by
  unfold zkM at h
  split at h
  · rename_i l m hw
    exact ⟨l, m, hw, of_decide_eq_true h⟩
  · cases h
def zkF (w : zW) : Bool := zobj w 2 1 [.ref 3, .ref 4, .ref 5, .ref 6, .int 1, .int 0, .int 1]
def zkt2 (s b : Int32) (w2 : zW) (t : Int32) : Bool := match zrunT 1000000 39 133 0 (zin 7 [.ref 9, .int s, .int b, .int 0]) [] w2 with
  | some (some (.int u), w3) => decide (u = t) && zkM w3 && zRmb w3
  | _ => false
def zkt (s b : Int32) (za ci : Nat) (w1 : zW) (t : Int32) : Bool := match zrunT 1000000 38 39 0 (zin 3 [.ref za, .int b, .int 0]) [] w1 with
  | some (some (.int u), w2) => decide (u = t) && zkZ w2 za ci && zkF w2 && zkM w2 && zRmb w2 && zkt2 s b w2 t
  | _ => false
theorem zkt_ok {s b t : Int32} {za ci : Nat} {w1 : zW} (h : zkt s b za ci w1 t = true) : ∃ (w2 w3 : zW) (g : List Value) (l2 : Value) (m2 : List Value) (l3 : Value) (m3 : List Value), zmet 38 39 [.ref za, .int b, .int 0] w1 (some (.int t)) w2 ∧ w2.1 za = some (.inr (ci, .ref 2 :: g)) ∧ w2.1 2 = some (.inr (1, [.ref 3, .ref 4, .ref 5, .ref 6, .int 1, .int 0, .int 1])) ∧ w2.1 9 = some (.inr (5, .int 1 :: l2 :: .int 0 :: m2)) ∧ zmet 39 133 [.ref 9, .int s, .int b, .int 0] w2 (some (.int t)) w3 ∧ w3.1 9 = some (.inr (5, .int 1 :: l3 :: .int 0 :: m3)) ∧ zRm w2 ∧ zRm w3 := by
  unfold zkt at h
  split at h
  · rename_i u w2 h1
    simp only [Bool.and_eq_true, decide_eq_true_eq] at h
    obtain ⟨⟨⟨⟨⟨e, a1⟩, a2⟩, a3⟩, a4⟩, a5⟩ := h
    subst e
    unfold zkt2 at a5
    split at a5
    · rename_i u' w3 h2
      simp only [Bool.and_eq_true, decide_eq_true_eq] at a5
      obtain ⟨⟨e', b1⟩, b2⟩ := a5
      subst e'
      obtain ⟨g, hz⟩ := zkZ_ok a1
      obtain ⟨l2, m2, h9, -⟩ := zkM_ok a3
      obtain ⟨l3, m3, h9', -⟩ := zkM_ok b1
      exact ⟨w2, w3, g, l2, m2, l3, m3, ⟨_, zm_39, Nat.le_of_ble_eq_true rfl, _, zrunT_ok _ _ _ _ _ _ _ _ h1⟩, hz, zobj_ok a2, h9, ⟨_, zm_133, Nat.le_of_ble_eq_true rfl, _, zrunT_ok _ _ _ _ _ _ _ _ h2⟩, h9', zRm_ok a4, zRm_ok b2⟩
    · cases a5
  · cases h
theorem zr_T1_0 {s b k : Int32} {za : Nat} {w1 : zW} {g1 : List Value} (hm : zmet 39 91 [.ref 1, .int s] zx4 (some (.ref za)) w1) (z1 : w1.1 za = some (.inr (0, .ref 2 :: g1))) (f1 : w1.1 2 = some (.inr (1, [.ref 3, .ref 4, .ref 5, .ref 6, .int 1, .int 0, .int 1]))) (hS : ∀ {w : zW} {l : Value} {m : List Value}, w.1 9 = some (.inr (5, .int 1 :: l :: .int 0 :: m)) → zmet 39 138 [.ref 9, .int s] w (some (.int 1)) w) (h0 : ¬ b < 0) (h7 : b < 7) (h6 : ¬ 6 < b) (h4 : ¬ b = 4) (hk : zkt s b za 0 w1 1 = true) (hn : ¬ (0 : Int32) = k) : zP 99 166 [.int s, .int b, .int k] := by
  obtain ⟨w2, w3, g, l2, m2, l3, m3, a1, a2, a3, a4, a5, a6, a7, a8⟩ := zkt_ok hk
  exact ⟨-1, w2, w3, zr_toldS_0 hm z1 h0 h7 h4 (zr_set1_0 z1 f1 a1 a2 a3 hn), zr_rtold1 a4 (hS a4) h0 h6 h4 a5 a6 hn, a7, a8⟩
theorem zr_T0_0 {s b k : Int32} {za : Nat} {w1 : zW} {g1 : List Value} (hm : zmet 39 91 [.ref 1, .int s] zx4 (some (.ref za)) w1) (z1 : w1.1 za = some (.inr (0, .ref 2 :: g1))) (f1 : w1.1 2 = some (.inr (1, [.ref 3, .ref 4, .ref 5, .ref 6, .int 1, .int 0, .int 1]))) (hS : ∀ {w : zW} {l : Value} {m : List Value}, w.1 9 = some (.inr (5, .int 1 :: l :: .int 0 :: m)) → zmet 39 138 [.ref 9, .int s] w (some (.int 1)) w) (h0 : ¬ b < 0) (h7 : b < 7) (h6 : ¬ 6 < b) (h4 : ¬ b = 4) (hk : zkt s b za 0 w1 0 = true) : zP 99 166 [.int s, .int b, .int k] := by
  obtain ⟨w2, w3, g, l2, m2, l3, m3, a1, a2, a3, a4, a5, a6, a7, a8⟩ := zkt_ok hk
  exact ⟨-1, w2, w3, zr_toldS_0 hm z1 h0 h7 h4 (zr_set0_0 z1 f1 a1 a2 a3), zr_rtold0 a4 (hS a4) h0 h6 h4 a5 a6, a7, a8⟩
theorem zr_T1_2 {s b k : Int32} {za : Nat} {w1 : zW} {g1 : List Value} (hm : zmet 39 91 [.ref 1, .int s] zx4 (some (.ref za)) w1) (z1 : w1.1 za = some (.inr (2, .ref 2 :: g1))) (f1 : w1.1 2 = some (.inr (1, [.ref 3, .ref 4, .ref 5, .ref 6, .int 1, .int 0, .int 1]))) (hS : ∀ {w : zW} {l : Value} {m : List Value}, w.1 9 = some (.inr (5, .int 1 :: l :: .int 0 :: m)) → zmet 39 138 [.ref 9, .int s] w (some (.int 1)) w) (h0 : ¬ b < 0) (h7 : b < 7) (h6 : ¬ 6 < b) (h4 : ¬ b = 4) (hk : zkt s b za 2 w1 1 = true) (hn : ¬ (0 : Int32) = k) : zP 99 166 [.int s, .int b, .int k] := by
  obtain ⟨w2, w3, g, l2, m2, l3, m3, a1, a2, a3, a4, a5, a6, a7, a8⟩ := zkt_ok hk
  exact ⟨-1, w2, w3, zr_toldS_2 hm z1 h0 h7 h4 (zr_set1_2 z1 f1 a1 a2 a3 hn), zr_rtold1 a4 (hS a4) h0 h6 h4 a5 a6 hn, a7, a8⟩
theorem zr_T0_2 {s b k : Int32} {za : Nat} {w1 : zW} {g1 : List Value} (hm : zmet 39 91 [.ref 1, .int s] zx4 (some (.ref za)) w1) (z1 : w1.1 za = some (.inr (2, .ref 2 :: g1))) (f1 : w1.1 2 = some (.inr (1, [.ref 3, .ref 4, .ref 5, .ref 6, .int 1, .int 0, .int 1]))) (hS : ∀ {w : zW} {l : Value} {m : List Value}, w.1 9 = some (.inr (5, .int 1 :: l :: .int 0 :: m)) → zmet 39 138 [.ref 9, .int s] w (some (.int 1)) w) (h0 : ¬ b < 0) (h7 : b < 7) (h6 : ¬ 6 < b) (h4 : ¬ b = 4) (hk : zkt s b za 2 w1 0 = true) : zP 99 166 [.int s, .int b, .int k] := by
  obtain ⟨w2, w3, g, l2, m2, l3, m3, a1, a2, a3, a4, a5, a6, a7, a8⟩ := zkt_ok hk
  exact ⟨-1, w2, w3, zr_toldS_2 hm z1 h0 h7 h4 (zr_set0_2 z1 f1 a1 a2 a3), zr_rtold0 a4 (hS a4) h0 h6 h4 a5 a6, a7, a8⟩
theorem zr_rmU {w : zW} (r : zRm w) (e : List Value) : zRm (va_up w.1 9 (some (.inr (5, e))), w.2) := by
  have h : va_up w.1 9 (some (.inr (5, e))) 0 = w.1 0 := va_up_ne w.1 (some (.inr (5, e))) (show (0 : Nat) ≠ 9 by decide)
  have h9 : va_up w.1 9 (some (.inr (5, e))) 9 = some (.inr (5, e)) := va_up_self w.1 9 (some (.inr (5, e)))
  exact ⟨r.1, r.2.1, r.2.2.1, h.trans r.2.2.2.1, ⟨e, h9⟩⟩
def zkp2 (s : Int32) (w2 : zW) : Bool := match zrunT 1000000 38 119 0 (zin 4 [.ref 9, .int s]) [] w2 with
  | some (none, w3) => zkM w3 && zRmb w3
  | _ => false
def zkp (s : Int32) (za ci : Nat) (w1 : zW) : Bool := match zrunT 1000000 38 29 0 (zin 3 [.ref za]) [] w1 with
  | some (none, w2) => zkZ w2 za ci && zkF w2 && zkM w2 && zRmb w2 && zkp2 s w2
  | _ => false
theorem zr_TP_0 {s k : Int32} {za : Nat} {w1 : zW} {g1 : List Value} (hm : zmet 39 91 [.ref 1, .int s] zx4 (some (.ref za)) w1) (z1 : w1.1 za = some (.inr (0, .ref 2 :: g1))) (hS : ∀ {w : zW} {l : Value} {m : List Value}, w.1 9 = some (.inr (5, .int 1 :: l :: .int 0 :: m)) → zmet 39 138 [.ref 9, .int s] w (some (.int 1)) w) (h : zkp s za 0 w1 = true) : zP 99 166 [.int s, .int 4, .int k] := by
  unfold zkp at h
  split at h
  · rename_i w2 h1
    simp only [Bool.and_eq_true] at h
    obtain ⟨⟨⟨⟨a1, a2⟩, a3⟩, a4⟩, a5⟩ := h
    unfold zkp2 at a5
    split at a5
    · rename_i w3 h2
      simp only [Bool.and_eq_true] at a5
      obtain ⟨b1, b2⟩ := a5
      obtain ⟨g, hz⟩ := zkZ_ok a1
      obtain ⟨l2, m2, h9, -⟩ := zkM_ok a3
      obtain ⟨l3, m3, h9', hl⟩ := zkM_ok b1
      have r3 := zRm_ok b2
      refine ⟨-1, w2, _, zr_toldP_0 hm z1 (zr_part_0 z1 ⟨_, zm_29, Nat.le_of_ble_eq_true rfl, _, zrunT_ok _ _ _ _ _ _ _ _ h1⟩ hz (zobj_ok a2)), zr_rtoldP h9 (hS h9) (zr_rpart h9 ⟨_, zm_119, Nat.le_of_ble_eq_true rfl, _, zrunT_ok _ _ _ _ _ _ _ _ h2⟩ h9' hl), zRm_ok a4, zr_rmU r3 _⟩
    · cases a5
  · cases h
theorem zr_TP_2 {s k : Int32} {za : Nat} {w1 : zW} {g1 : List Value} (hm : zmet 39 91 [.ref 1, .int s] zx4 (some (.ref za)) w1) (z1 : w1.1 za = some (.inr (2, .ref 2 :: g1))) (hS : ∀ {w : zW} {l : Value} {m : List Value}, w.1 9 = some (.inr (5, .int 1 :: l :: .int 0 :: m)) → zmet 39 138 [.ref 9, .int s] w (some (.int 1)) w) (h : zkp s za 2 w1 = true) : zP 99 166 [.int s, .int 4, .int k] := by
  unfold zkp at h
  split at h
  · rename_i w2 h1
    simp only [Bool.and_eq_true] at h
    obtain ⟨⟨⟨⟨a1, a2⟩, a3⟩, a4⟩, a5⟩ := h
    unfold zkp2 at a5
    split at a5
    · rename_i w3 h2
      simp only [Bool.and_eq_true] at a5
      obtain ⟨b1, b2⟩ := a5
      obtain ⟨g, hz⟩ := zkZ_ok a1
      obtain ⟨l2, m2, h9, -⟩ := zkM_ok a3
      obtain ⟨l3, m3, h9', hl⟩ := zkM_ok b1
      have r3 := zRm_ok b2
      refine ⟨-1, w2, _, zr_toldP_2 hm z1 (zr_part_2 z1 ⟨_, zm_29, Nat.le_of_ble_eq_true rfl, _, zrunT_ok _ _ _ _ _ _ _ _ h1⟩ hz (zobj_ok a2)), zr_rtoldP h9 (hS h9) (zr_rpart h9 ⟨_, zm_119, Nat.le_of_ble_eq_true rfl, _, zrunT_ok _ _ _ _ _ _ _ _ h2⟩ h9' hl), zRm_ok a4, zr_rmU r3 _⟩
    · cases a5
  · cases h
def zkc5 (w5 : zW) : Bool := match zrunT 1000000 39 148 0 (zin 3 [.int 1]) [] w5 with
  | some (some (.int 1), w6) => zkM w6 && zRmb w6
  | _ => false
def zkc4 (w4 : zW) : Bool := match zrunT 1000000 39 148 0 (zin 3 [.int 0]) [] w4 with
  | some (some (.int 0), w5) => zkM w5 && zkc5 w5
  | _ => false
def zkc3 (za ci : Nat) (w3 : zW) : Bool := match zrunT 1000000 38 36 0 (zin 3 [.ref za, .int 1]) [] w3 with
  | some (some (.int 0), w4) => zkZ w4 za ci && zkF w4 && zkM w4 && zRmb w4 && zkc4 w4
  | _ => false
def zkc2 (za ci : Nat) (w2 : zW) : Bool := match zrunT 1000000 38 36 0 (zin 3 [.ref za, .int 0]) [] w2 with
  | some (some (.int 0), w3) => zkZ w3 za ci && zkF w3 && zkc3 za ci w3
  | _ => false
theorem zkc4_ok {w4 : zW} (h : zkc4 w4 = true) : ∃ (w5 w6 : zW) (l5 : Value) (m5 : List Value) (l6 : Value) (m6 : List Value), zmet 39 148 [.int 0] w4 (some (.int 0)) w5 ∧ w5.1 9 = some (.inr (5, .int 1 :: l5 :: .int 0 :: m5)) ∧ zmet 39 148 [.int 1] w5 (some (.int 1)) w6 ∧ w6.1 9 = some (.inr (5, .int 1 :: l6 :: .int 0 :: m6)) ∧ zRm w6 := by
  unfold zkc4 at h
  split at h
  · rename_i w5 h1
    simp only [Bool.and_eq_true] at h
    obtain ⟨a1, a2⟩ := h
    unfold zkc5 at a2
    split at a2
    · rename_i w6 h2
      simp only [Bool.and_eq_true] at a2
      obtain ⟨b1, b2⟩ := a2
      obtain ⟨l5, m5, h9, -⟩ := zkM_ok a1
      obtain ⟨l6, m6, h9', -⟩ := zkM_ok b1
      exact ⟨w5, w6, l5, m5, l6, m6, ⟨_, zm_148, Nat.le_of_ble_eq_true rfl, _, zrunT_ok _ _ _ _ _ _ _ _ h1⟩, h9, ⟨_, zm_148, Nat.le_of_ble_eq_true rfl, _, zrunT_ok _ _ _ _ _ _ _ _ h2⟩, h9', zRm_ok b2⟩
    · cases a2
  · cases h
def zkc_0 (za : Nat) (w1 : zW) : Bool := match zrunT 1000000 39 4 0 (zin 3 [.ref za, .int 0]) [] w1 with
  | some (none, w2) => zkZ w2 za 0 && zkF w2 && zkc2 za 0 w2
  | _ => false
theorem zr_C_0 {s k : Int32} {za : Nat} {w1 : zW} {g1 : List Value} (hm : zmet 39 91 [.ref 1, .int s] zx4 (some (.ref za)) w1) (k1 : w1.1 1 = some (.inr (4, [.ref 2, .ref 7, .ref 8]))) (z1 : w1.1 za = some (.inr (0, .ref 2 :: g1))) (f1 : w1.1 2 = some (.inr (1, [.ref 3, .ref 4, .ref 5, .ref 6, .int 1, .int 0, .int 1]))) (hS : ∀ {w : zW} {l : Value} {m : List Value}, w.1 9 = some (.inr (5, .int 1 :: l :: .int 0 :: m)) → zmet 39 138 [.ref 9, .int s] w (some (.int 1)) w) (h : zkc_0 za w1 = true) : zP 77 113 [.int s, .int k] := by
  unfold zkc_0 at h
  split at h
  · rename_i w2 h1
    simp only [Bool.and_eq_true] at h
    obtain ⟨⟨a1, a2⟩, a3⟩ := h
    unfold zkc2 at a3
    split at a3
    · rename_i w3 h2
      simp only [Bool.and_eq_true] at a3
      obtain ⟨⟨b1, b2⟩, b3⟩ := a3
      unfold zkc3 at b3
      split at b3
      · rename_i w4 h3
        simp only [Bool.and_eq_true] at b3
        obtain ⟨⟨⟨⟨c1, c2⟩, c3⟩, c4⟩, c5⟩ := b3
        obtain ⟨w5, w6, l5, m5, l6, m6, e1, e2, e3, e4, e5⟩ := zkc4_ok c5
        obtain ⟨g2, z2⟩ := zkZ_ok a1
        obtain ⟨g3, z3⟩ := zkZ_ok b1
        obtain ⟨g4, z4⟩ := zkZ_ok c1
        obtain ⟨l4, m4, h9, -⟩ := zkM_ok c3
        have y1 : zmet 39 4 [.ref za, .int 0] w1 none w2 := ⟨_, zm_4, Nat.le_of_ble_eq_true rfl, _, zrunT_ok _ _ _ _ _ _ _ _ h1⟩
        have y2 : zmet 38 36 [.ref za, .int 0] w2 (some (.int 0)) w3 := ⟨_, zm_36, Nat.le_of_ble_eq_true rfl, _, zrunT_ok _ _ _ _ _ _ _ _ h2⟩
        have y3 : zmet 38 36 [.ref za, .int 1] w3 (some (.int 0)) w4 := ⟨_, zm_36, Nat.le_of_ble_eq_true rfl, _, zrunT_ok _ _ _ _ _ _ _ _ h3⟩
        exact ⟨-1, w4, w6, zr_cl_0 hm k1 f1 z1 y1 z2 (zr_clA_0 z2 (zobj_ok a2) z3 (zobj_ok b2) z4 (zobj_ok c2) y2 y3), zr_rcl h9 (hS h9) e1 e2 e3 e4, zRm_ok c4, e5⟩
      · cases b3
    · cases a3
  · cases h
def zkc_2 (za : Nat) (w1 : zW) : Bool := match zrunT 1000000 39 52 0 (zin 4 [.ref za, .int 0]) [] w1 with
  | some (none, w2) => zkZ w2 za 2 && zkF w2 && zkc2 za 2 w2
  | _ => false
theorem zr_C_2 {s k : Int32} {za : Nat} {w1 : zW} {g1 : List Value} (hm : zmet 39 91 [.ref 1, .int s] zx4 (some (.ref za)) w1) (k1 : w1.1 1 = some (.inr (4, [.ref 2, .ref 7, .ref 8]))) (z1 : w1.1 za = some (.inr (2, .ref 2 :: g1))) (f1 : w1.1 2 = some (.inr (1, [.ref 3, .ref 4, .ref 5, .ref 6, .int 1, .int 0, .int 1]))) (hS : ∀ {w : zW} {l : Value} {m : List Value}, w.1 9 = some (.inr (5, .int 1 :: l :: .int 0 :: m)) → zmet 39 138 [.ref 9, .int s] w (some (.int 1)) w) (h : zkc_2 za w1 = true) : zP 77 113 [.int s, .int k] := by
  unfold zkc_2 at h
  split at h
  · rename_i w2 h1
    simp only [Bool.and_eq_true] at h
    obtain ⟨⟨a1, a2⟩, a3⟩ := h
    unfold zkc2 at a3
    split at a3
    · rename_i w3 h2
      simp only [Bool.and_eq_true] at a3
      obtain ⟨⟨b1, b2⟩, b3⟩ := a3
      unfold zkc3 at b3
      split at b3
      · rename_i w4 h3
        simp only [Bool.and_eq_true] at b3
        obtain ⟨⟨⟨⟨c1, c2⟩, c3⟩, c4⟩, c5⟩ := b3
        obtain ⟨w5, w6, l5, m5, l6, m6, e1, e2, e3, e4, e5⟩ := zkc4_ok c5
        obtain ⟨g2, z2⟩ := zkZ_ok a1
        obtain ⟨g3, z3⟩ := zkZ_ok b1
        obtain ⟨g4, z4⟩ := zkZ_ok c1
        obtain ⟨l4, m4, h9, -⟩ := zkM_ok c3
        have y1 : zmet 39 52 [.ref za, .int 0] w1 none w2 := ⟨_, zm_52, Nat.le_of_ble_eq_true rfl, _, zrunT_ok _ _ _ _ _ _ _ _ h1⟩
        have y2 : zmet 38 36 [.ref za, .int 0] w2 (some (.int 0)) w3 := ⟨_, zm_36, Nat.le_of_ble_eq_true rfl, _, zrunT_ok _ _ _ _ _ _ _ _ h2⟩
        have y3 : zmet 38 36 [.ref za, .int 1] w3 (some (.int 0)) w4 := ⟨_, zm_36, Nat.le_of_ble_eq_true rfl, _, zrunT_ok _ _ _ _ _ _ _ _ h3⟩
        exact ⟨-1, w4, w6, zr_cl_2 hm k1 f1 z1 y1 z2 (zr_clA_2 z2 (zobj_ok a2) z3 (zobj_ok b2) z4 (zobj_ok c2) y2 y3), zr_rcl h9 (hS h9) e1 e2 e3 e4, zRm_ok c4, e5⟩
      · cases b3
    · cases a3
  · cases h
theorem zr_z0 : zkZ zy0 za0 2 = true := by decide +kernel
theorem zr_z1 : zkZ zy1 za1 2 = true := by decide +kernel
theorem zr_z2 : zkZ zy2 za2 0 = true := by decide +kernel
theorem zkt_0_0 : zkt 0 0 za0 2 zy0 1 = true := by decide +kernel
theorem zkt_0_1 : zkt 0 1 za0 2 zy0 1 = true := by decide +kernel
theorem zkt_0_2 : zkt 0 2 za0 2 zy0 0 = true := by decide +kernel
theorem zkt_0_3 : zkt 0 3 za0 2 zy0 1 = true := by decide +kernel
theorem zkt_0_5 : zkt 0 5 za0 2 zy0 1 = true := by decide +kernel
theorem zkt_0_6 : zkt 0 6 za0 2 zy0 0 = true := by decide +kernel
theorem zkp_0 : zkp 0 za0 2 zy0 = true := by decide +kernel
theorem zkcl_0 : zkc_2 za0 zy0 = true := by decide +kernel
theorem zkt_1_0 : zkt 1 0 za1 2 zy1 1 = true := by decide +kernel
theorem zkt_1_1 : zkt 1 1 za1 2 zy1 1 = true := by decide +kernel
theorem zkt_1_2 : zkt 1 2 za1 2 zy1 0 = true := by decide +kernel
theorem zkt_1_3 : zkt 1 3 za1 2 zy1 1 = true := by decide +kernel
theorem zkt_1_5 : zkt 1 5 za1 2 zy1 1 = true := by decide +kernel
theorem zkt_1_6 : zkt 1 6 za1 2 zy1 0 = true := by decide +kernel
theorem zkp_1 : zkp 1 za1 2 zy1 = true := by decide +kernel
theorem zkcl_1 : zkc_2 za1 zy1 = true := by decide +kernel
theorem zkt_2_0 : zkt 2 0 za2 0 zy2 1 = true := by decide +kernel
theorem zkt_2_1 : zkt 2 1 za2 0 zy2 1 = true := by decide +kernel
theorem zkt_2_2 : zkt 2 2 za2 0 zy2 0 = true := by decide +kernel
theorem zkt_2_3 : zkt 2 3 za2 0 zy2 1 = true := by decide +kernel
theorem zkt_2_5 : zkt 2 5 za2 0 zy2 1 = true := by decide +kernel
theorem zkt_2_6 : zkt 2 6 za2 0 zy2 0 = true := by decide +kernel
theorem zkp_2 : zkp 2 za2 0 zy2 = true := by decide +kernel
theorem zkcl_2 : zkc_0 za2 zy2 = true := by decide +kernel
theorem p_told (v b c : Int32) : zP 99 166 [.int v, .int b, .int c] := by
  obtain ⟨p, ms, hM⟩ := zx4_9
  by_cases h : v < 0 ∨ 2 < v
  · exact zP_same (s_told zx4_1 h) (t_told hM h)
  · rcases z012 h with e | e | e <;> subst e
    · by_cases hb : b < 0 ∨ 6 < b
      · obtain ⟨p, ms, hM⟩ := zy0_9
        exact zP_to (s_told0 zy0_m hb) (t_told0 hM hb) zy0_r
      · obtain ⟨g, hz⟩ := zkZ_ok zr_z0
        rcases z06 hb with e | e | e | e | e | e | e <;> subst e
        · by_cases hc : (0 : Int32) = c
          · subst hc
            exact zc_told_0_0_0
          · exact zr_T1_2 zy0_m hz zy0_2 c_isSort1_0 (by decide) (by decide) (by decide) (by decide) zkt_0_0 hc
        · by_cases hc : (0 : Int32) = c
          · subst hc
            exact zc_told_0_1_0
          · exact zr_T1_2 zy0_m hz zy0_2 c_isSort1_0 (by decide) (by decide) (by decide) (by decide) zkt_0_1 hc
        · exact zr_T0_2 zy0_m hz zy0_2 c_isSort1_0 (by decide) (by decide) (by decide) (by decide) zkt_0_2
        · by_cases hc : (0 : Int32) = c
          · subst hc
            exact zc_told_0_3_0
          · exact zr_T1_2 zy0_m hz zy0_2 c_isSort1_0 (by decide) (by decide) (by decide) (by decide) zkt_0_3 hc
        · exact zr_TP_2 zy0_m hz c_isSort1_0 zkp_0
        · by_cases hc : (0 : Int32) = c
          · subst hc
            exact zc_told_0_5_0
          · exact zr_T1_2 zy0_m hz zy0_2 c_isSort1_0 (by decide) (by decide) (by decide) (by decide) zkt_0_5 hc
        · exact zr_T0_2 zy0_m hz zy0_2 c_isSort1_0 (by decide) (by decide) (by decide) (by decide) zkt_0_6
    · by_cases hb : b < 0 ∨ 6 < b
      · obtain ⟨p, ms, hM⟩ := zy1_9
        exact zP_to (s_told1 zy1_m hb) (t_told1 hM hb) zy1_r
      · obtain ⟨g, hz⟩ := zkZ_ok zr_z1
        rcases z06 hb with e | e | e | e | e | e | e <;> subst e
        · by_cases hc : (0 : Int32) = c
          · subst hc
            exact zc_told_1_0_0
          · exact zr_T1_2 zy1_m hz zy1_2 c_isSort1_1 (by decide) (by decide) (by decide) (by decide) zkt_1_0 hc
        · by_cases hc : (0 : Int32) = c
          · subst hc
            exact zc_told_1_1_0
          · exact zr_T1_2 zy1_m hz zy1_2 c_isSort1_1 (by decide) (by decide) (by decide) (by decide) zkt_1_1 hc
        · exact zr_T0_2 zy1_m hz zy1_2 c_isSort1_1 (by decide) (by decide) (by decide) (by decide) zkt_1_2
        · by_cases hc : (0 : Int32) = c
          · subst hc
            exact zc_told_1_3_0
          · exact zr_T1_2 zy1_m hz zy1_2 c_isSort1_1 (by decide) (by decide) (by decide) (by decide) zkt_1_3 hc
        · exact zr_TP_2 zy1_m hz c_isSort1_1 zkp_1
        · by_cases hc : (0 : Int32) = c
          · subst hc
            exact zc_told_1_5_0
          · exact zr_T1_2 zy1_m hz zy1_2 c_isSort1_1 (by decide) (by decide) (by decide) (by decide) zkt_1_5 hc
        · exact zr_T0_2 zy1_m hz zy1_2 c_isSort1_1 (by decide) (by decide) (by decide) (by decide) zkt_1_6
    · by_cases hb : b < 0 ∨ 6 < b
      · obtain ⟨p, ms, hM⟩ := zy2_9
        exact zP_to (s_told2 zy2_m hb) (t_told2 hM hb) zy2_r
      · obtain ⟨g, hz⟩ := zkZ_ok zr_z2
        rcases z06 hb with e | e | e | e | e | e | e <;> subst e
        · by_cases hc : (0 : Int32) = c
          · subst hc
            exact zc_told_2_0_0
          · exact zr_T1_0 zy2_m hz zy2_2 c_isSort1_2 (by decide) (by decide) (by decide) (by decide) zkt_2_0 hc
        · by_cases hc : (0 : Int32) = c
          · subst hc
            exact zc_told_2_1_0
          · exact zr_T1_0 zy2_m hz zy2_2 c_isSort1_2 (by decide) (by decide) (by decide) (by decide) zkt_2_1 hc
        · exact zr_T0_0 zy2_m hz zy2_2 c_isSort1_2 (by decide) (by decide) (by decide) (by decide) zkt_2_2
        · by_cases hc : (0 : Int32) = c
          · subst hc
            exact zc_told_2_3_0
          · exact zr_T1_0 zy2_m hz zy2_2 c_isSort1_2 (by decide) (by decide) (by decide) (by decide) zkt_2_3 hc
        · exact zr_TP_0 zy2_m hz c_isSort1_2 zkp_2
        · by_cases hc : (0 : Int32) = c
          · subst hc
            exact zc_told_2_5_0
          · exact zr_T1_0 zy2_m hz zy2_2 c_isSort1_2 (by decide) (by decide) (by decide) (by decide) zkt_2_5 hc
        · exact zr_T0_0 zy2_m hz zy2_2 c_isSort1_2 (by decide) (by decide) (by decide) (by decide) zkt_2_6
theorem p_cluster (v b : Int32) : zP 77 113 [.int v, .int b] := by
  obtain ⟨p, ms, hM⟩ := zx4_9
  by_cases h : v < 0 ∨ 2 < v
  · exact zP_same (s_cluster zx4_1 h) (t_cluster hM h)
  · rcases z012 h with e | e | e <;> subst e
    · obtain ⟨g, hz⟩ := zkZ_ok zr_z0
      exact zr_C_2 zy0_m zy0_1 hz zy0_2 c_isSort1_0 zkcl_0
    · obtain ⟨g, hz⟩ := zkZ_ok zr_z1
      exact zr_C_2 zy1_m zy1_1 hz zy1_2 c_isSort1_1 zkcl_1
    · obtain ⟨g, hz⟩ := zkZ_ok zr_z2
      exact zr_C_0 zy2_m zy2_1 hz zy2_2 c_isSort1_2 zkcl_2
theorem zx4_26 : zarr zx4 26 7 = true := by decide +kernel
def zbF : Nat → Int32 := match zx4.1 26 with
  | some (.inl (0, 7, .inl f)) => f
  | _ => fun _ => 0
theorem zbF_ok : zx4.1 26 = some (.inl (0, 7, .inl zbF)) := by
  obtain ⟨f, h, -⟩ := zarr_ok zx4_26
  have e : zbF = f := by
    unfold zbF
    rw [h]
    rfl
  rw [e]
  exact h
def zkb : Bool := match zrunT 1000000 39 127 0 (zin 4 [.ref 9]) [] (zu zx4 26 (.inl (0, 7, .inl (upd zbF 0 0)))) with
  | some (some (.int 1), w2) => zkM w2 && zRmb w2
  | _ => false
theorem zkb_ok : zkb = true := by decide +kernel
theorem p_built (v : Int32) : zP 75 107 [.int v] := by
  by_cases h : v < 0 ∨ (1 : Int32) ≤ v
  · have hk := zkb_ok
    unfold zkb at hk
    split at hk
    · rename_i w2 h1
      simp only [Bool.and_eq_true] at hk
      obtain ⟨l2, m2, h9, -⟩ := zkM_ok hk.1
      exact ⟨-1, zx4, w2, zr_bu zx4_1 zx4_2 h, zr_rbu zx4_9f zbF_ok ⟨_, zm_127, Nat.le_of_ble_eq_true rfl, _, zrunT_ok _ _ _ _ _ _ _ _ h1⟩ h9 (z10 h), zx4_Rm, zRm_ok hk.2⟩
    · cases hk
  · have e := z01 (fun k => h (Or.inl k)) (fun k => h (Or.inr k))
    subst e
    exact zc_built_0
