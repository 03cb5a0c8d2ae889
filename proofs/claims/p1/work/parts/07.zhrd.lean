/-! reads and stores of the small machine, and that the machine does the same -/
abbrev zG : Type := Nat × List Value × zW
def zbd (i : Int32) (N : Nat) : Bool := !(decide (i < 0 ∨ N ≤ i.toNatClampNeg))
def zHget (o idx len pc : Nat) (st : List Value) (w : zW) : Option zG := match st with
  | .ref a :: r => match w.1 a, zfl o idx with
    | some (.inr (ci, fs)), some (k, cs) => if len = 3 ∧ ci ∈ cs then (match fs[k]? with
      | some v => some (pc + 3, v :: r, w)
      | none => none) else none
    | _, _ => none
  | _ => none
def zHia (len pc : Nat) (st : List Value) (w : zW) : Option zG := match st with
  | .int i :: .ref a :: r => match w.1 a with
    | some (.inl (kd, N, .inl f)) => if len = 1 ∧ (kd = 0 ∨ kd = 9) ∧ zbd i N = true then some (pc + 1, .int (f i.toNatClampNeg) :: r, w) else none
    | _ => none
  | _ => none
def zHba (len pc : Nat) (st : List Value) (w : zW) : Option zG := match st with
  | .int i :: .ref a :: r => match w.1 a with
    | some (.inl (kd, N, .inl f)) => if len = 1 ∧ kd = 2 ∧ zbd i N = true then some (pc + 1, .int (f i.toNatClampNeg) :: r, w) else none
    | _ => none
  | _ => none
def zHla (len pc : Nat) (st : List Value) (w : zW) : Option zG := match st with
  | .int i :: .ref a :: r => match w.1 a with
    | some (.inl (kd, N, .inr (.inl f))) => if len = 1 ∧ kd = 1 ∧ zbd i N = true then some (pc + 1, .long (f i.toNatClampNeg) :: r, w) else none
    | _ => none
  | _ => none
def zHaa (len pc : Nat) (st : List Value) (w : zW) : Option zG := match st with
  | .int i :: .ref a :: r => match w.1 a with
    | some (.inl (kd, N, .inr (.inr (.inr (.inr f))))) => if len = 1 ∧ (kd = 3 ∨ kd = 4) ∧ zbd i N = true then some (pc + 1, va_rf (f i.toNatClampNeg) :: r, w) else none
    | _ => none
  | _ => none
def zHal (len pc : Nat) (st : List Value) (w : zW) : Option zG := match st with
  | .ref a :: r => match w.1 a with
    | some (.inl (kd, N, _)) => if len = 1 ∧ (kd = 0 ∨ kd = 1 ∨ kd = 2 ∨ kd = 3 ∨ kd = 4 ∨ kd = 9) then some (pc + 1, .int (Int32.ofNat N) :: r, w) else none
    | _ => none
  | _ => none
def zHis (len pc : Nat) (st : List Value) (w : zW) : Option zG := match st with
  | .int x :: .int i :: .ref a :: r => match w.1 a with
    | some (.inl (kd, N, .inl f)) => if len = 1 ∧ kd = 0 ∧ zbd i N = true then some (pc + 1, r, (va_up w.1 a (some (.inl (0, N, .inl (upd f i.toNatClampNeg x)))), w.2)) else none
    | _ => none
  | _ => none
def zHbs (len pc : Nat) (st : List Value) (w : zW) : Option zG := match st with
  | .int x :: .int i :: .ref a :: r => match w.1 a with
    | some (.inl (kd, N, .inl f)) => if len = 1 ∧ kd = 2 ∧ zbd i N = true then some (pc + 1, r, (va_up w.1 a (some (.inl (2, N, .inl (upd f i.toNatClampNeg (vp_nar .boolean x))))), w.2)) else none
    | _ => none
  | _ => none
def zHls (len pc : Nat) (st : List Value) (w : zW) : Option zG := match st with
  | .long x :: .int i :: .ref a :: r => match w.1 a with
    | some (.inl (kd, N, .inr (.inl f))) => if len = 1 ∧ kd = 1 ∧ zbd i N = true then some (pc + 1, r, (va_up w.1 a (some (.inl (1, N, .inr (.inl (vp_updL f i.toNatClampNeg x))))), w.2)) else none
    | _ => none
  | _ => none
theorem zbd_inv {i : Int32} {N : Nat} (h : zbd i N = true) : vp_in i N := by
  unfold zbd at h
  simp only [Bool.not_eq_true', decide_eq_false_iff_not] at h
  exact h
theorem zw.obj {Y : zY} {z0 : Nat} {s : State} {H : Heap} {w : zW} {a ci : Nat} {fs : List Value} (hw : zw Y z0 s H w) (h : w.1 a = some (.inr (ci, fs))) : ∃ (ws : va_W) (k : Nat), va_P Y.1 vwCl ws H ∧ va_D (fun q => z0 ≤ q) ws ∧ ws[k]? = some (a, .inr (ci, fs)) := by
  obtain ⟨-, ws, hP, hD, hA⟩ := hw
  rcases hA a _ h with ⟨k, hk⟩ | ⟨L, xs, he, -⟩
  · exact ⟨ws, k, hP, hD, hk⟩
  · cases he
theorem zw.arr {Y : zY} {z0 : Nat} {s : State} {H : Heap} {w : zW} {a kd : Nat} {x : vp_A} (hw : zw Y z0 s H w) (h : w.1 a = some (.inl (kd, x))) (h9 : kd ≠ 9) : ∃ (ws : va_W) (k : Nat), va_P Y.1 vwCl ws H ∧ va_D (fun q => z0 ≤ q) ws ∧ ws[k]? = some (a, .inl (Y.2 kd, x)) := by
  obtain ⟨-, ws, hP, hD, hA⟩ := hw
  rcases hA a _ h with ⟨k, hk⟩ | ⟨L, xs, he, -⟩
  · exact ⟨ws, k, hP, hD, hk⟩
  · simp only [Sum.inl.injEq, Prod.mk.injEq] at he
    exact absurd he.1 h9
theorem zw.script {Y : zY} {z0 : Nat} {s : State} {H : Heap} {w : zW} {a : Nat} {N : Nat} {f : Nat → Int32} (hw : zw Y z0 s H w) (h : w.1 a = some (.inl (9, N, .inl f))) : (∃ (ws : va_W) (k : Nat), va_P Y.1 vwCl ws H ∧ ws[k]? = some (a, .inl (Y.2 9, N, .inl f))) ∨ va_X a N f s H := by
  obtain ⟨-, ws, hP, hD, hA⟩ := hw
  rcases hA a _ h with ⟨k, hk⟩ | ⟨L, xs, he, -, hX⟩
  · exact Or.inl ⟨ws, k, hP, hk⟩
  · simp only [Sum.inl.injEq, Prod.mk.injEq, true_and] at he
    obtain ⟨rfl, rfl⟩ := he
    exact Or.inr hX
/-- one cell is written -/
theorem zw.put {Y : zY} {z0 : Nat} {s : State} {H H1 : Heap} {w : zW} {a : Nat} {e0 e : va_E} (hw : zw Y z0 s H w) (h : w.1 a = some e0) (h9 : ∀ x, e0 ≠ .inl (9, x)) (hat : va_at Y.1 vwCl (a, zc Y e) H1) (z : H1.size = H.size) (oq : ∀ q : Nat, q ≠ a → H1[q]? = H[q]?) : zw Y z0 s H1 (va_up w.1 a (some e), w.2) ∧ z0 ≤ a := by
  obtain ⟨hn, ws, hP, hD, hA⟩ := hw
  have h0 : ∃ k : Nat, ws[k]? = some (a, zc Y e0) := by
    rcases hA a _ h with h1 | ⟨L, xs, he, -⟩
    · exact h1
    · exact absurd he (h9 _)
  obtain ⟨q0, hq⟩ := h0
  refine ⟨⟨z.trans hn, ws.set q0 (a, zc Y e), hP.set hD hq hat oq, hD.set hq, ?_⟩, hD.2 q0 _ hq⟩
  intro b e' hb
  by_cases hba : b = a
  · subst hba
    simp only [va_up, if_true, Option.some.injEq] at hb
    subst hb
    refine Or.inl ⟨q0, ?_⟩
    rw [List.getElem?_set_self (List.getElem?_eq_some_iff.mp hq).1]
  · simp only [va_up, if_neg hba] at hb
    rcases hA b _ hb with ⟨k, hk⟩ | ⟨L, xs, he, hlt, hX⟩
    · refine Or.inl ⟨k, ?_⟩
      have hne : q0 ≠ k := by
        intro hqk
        subst hqk
        rw [hq] at hk
        simp only [Option.some.injEq, Prod.mk.injEq] at hk
        exact hba hk.1.symm
      rw [List.getElem?_set_ne hne]
      exact hk
    · exact Or.inr ⟨L, xs, he, hlt, hX.kept (oq b hba)⟩
theorem ztys_at {Y : zY} : (ztys Y)[0]? = some (Y.2 0, .int) ∧ (ztys Y)[1]? = some (Y.2 1, .long) ∧ (ztys Y)[2]? = some (Y.2 2, .boolean) ∧ (ztys Y)[3]? = some (Y.2 3, .object RX2) ∧ (ztys Y)[4]? = some (Y.2 4, .object RX5) := ⟨rfl, rfl, rfl, rfl, rfl⟩
section ZHR
variable {p : Program} {l : Launch} {e : Env} {R : Room} {s : State} {m : MethodId} {args : Array Value} {below : List Frame} {meth : Method} {c : Code} {H : Heap} {locs : List Loc} {cells slots : Nat} {Q : State → Prop}
variable {cc : ByteArray} {pc len : Nat} {ls : Array Slot} {st st' : List Value} {pc' : Nat} {Y : zY} {z0 : Nat} {w w' : zW}
theorem zHget_ok {o idx : Nat} (hx : p.tables.exec = Jvm.exec) (hb : c.code = cc) (hts : ∀ w ∈ zT, w.before args s = true) (hown : s.vm.findClass (zOwn o) = some m.cls) (hK : va_K Y.1 vwCl (ztys Y) s) (hz : zHget o idx len pc st w = some (pc', st', w')) (hd : decode cc pc = .ok (.getfield idx, len)) (hw : zw Y z0 s H w) (kk : w' = w → W p l e R s m args below meth c H locs cells slots Q (F0 m pc' ls st')) : W p l e R s m args below meth c H locs cells slots Q (F0 m pc ls st) := by
  unfold zHget at hz
  split at hz
  · rename_i a r
    split at hz
    · rename_i ci fs k cs ha hf
      split at hz
      · rename_i hc
        obtain ⟨rfl, hc⟩ := hc
        split at hz
        · rename_i v hv
          simp only [Option.some.injEq, Prod.mk.injEq] at hz
          obtain ⟨rfl, rfl, rfl⟩ := hz
          obtain ⟨ref, C, T, N, h1, h2, h3, h4⟩ := zfl_inv hf hc
          obtain ⟨ws, q, hP, -, hq⟩ := hw.obj ha
          exact va_get (D := Y.1) (ci := ci) (C := C) (T := T) (N := N) hx hb hts (zlays_in h1) hown hK hP q hq h1 k h2 (hts _ h3) (zsame hts h4) hv hd (kk rfl)
        · cases hz
      · cases hz
    · cases hz
  · cases hz
theorem zHia_ok (hx : p.tables.exec = Jvm.exec) (hb : c.code = cc) (hK : va_K Y.1 vwCl (ztys Y) s) (hz : zHia len pc st w = some (pc', st', w')) (hd : decode cc pc = .ok (.iaload, len)) (hw : zw Y z0 s H w) (kk : w' = w → W p l e R s m args below meth c H locs cells slots Q (F0 m pc' ls st')) (hno9 : Y.2 9 = Y.2 0) : W p l e R s m args below meth c H locs cells slots Q (F0 m pc ls st) := by
  unfold zHia at hz
  split at hz
  · rename_i i a r
    split at hz
    · rename_i kd N f ha
      split at hz
      · rename_i hc
        obtain ⟨rfl, hkd, hin⟩ := hc
        simp only [Option.some.injEq, Prod.mk.injEq] at hz
        obtain ⟨rfl, rfl, rfl⟩ := hz
        rcases hkd with rfl | rfl
        · obtain ⟨ws, q, hP, -, hq⟩ := hw.arr ha (by decide)
          exact va_iald hx hb hK hP q 0 hq rfl (zbd_inv hin) hd (kk rfl)
        · rcases hw.script ha with ⟨ws, q, hP, hq⟩ | ⟨scr, h1, h2, h3, h4, h5⟩
          · rw [hno9] at hq
            exact va_iald hx hb hK hP q 0 hq rfl (zbd_inv hin) hd (kk rfl)
          · have hin := zbd_inv hin
            have hlt : i.toNatClampNeg < N := Nat.not_le.mp fun q => hin (Or.inr q)
            exact W.iald (v := .int (f i.toNatClampNeg)) hx hb h1 h2 h3 (by rw [h4]; exact hin) (h5 _ hlt) rfl rfl hd (kk rfl)
      · cases hz
    · cases hz
  · cases hz
theorem zHba_ok (hx : p.tables.exec = Jvm.exec) (hb : c.code = cc) (hK : va_K Y.1 vwCl (ztys Y) s) (hz : zHba len pc st w = some (pc', st', w')) (hd : decode cc pc = .ok (.baload, len)) (hw : zw Y z0 s H w) (kk : w' = w → W p l e R s m args below meth c H locs cells slots Q (F0 m pc' ls st')) : W p l e R s m args below meth c H locs cells slots Q (F0 m pc ls st) := by
  unfold zHba at hz
  split at hz
  · rename_i i a r
    split at hz
    · rename_i kd N f ha
      split at hz
      · rename_i hc
        obtain ⟨rfl, rfl, hin⟩ := hc
        simp only [Option.some.injEq, Prod.mk.injEq] at hz
        obtain ⟨rfl, rfl, rfl⟩ := hz
        obtain ⟨ws, q, hP, -, hq⟩ := hw.arr ha (by decide)
        exact va_zald hx hb hK hP q 2 hq rfl (zbd_inv hin) hd (kk rfl)
      · cases hz
    · cases hz
  · cases hz
theorem zHla_ok (hx : p.tables.exec = Jvm.exec) (hb : c.code = cc) (hK : va_K Y.1 vwCl (ztys Y) s) (hz : zHla len pc st w = some (pc', st', w')) (hd : decode cc pc = .ok (.laload, len)) (hw : zw Y z0 s H w) (kk : w' = w → W p l e R s m args below meth c H locs cells slots Q (F0 m pc' ls st')) : W p l e R s m args below meth c H locs cells slots Q (F0 m pc ls st) := by
  unfold zHla at hz
  split at hz
  · rename_i i a r
    split at hz
    · rename_i kd N f ha
      split at hz
      · rename_i hc
        obtain ⟨rfl, rfl, hin⟩ := hc
        simp only [Option.some.injEq, Prod.mk.injEq] at hz
        obtain ⟨rfl, rfl, rfl⟩ := hz
        obtain ⟨ws, q, hP, -, hq⟩ := hw.arr ha (by decide)
        exact va_lald hx hb hK hP q 1 hq rfl (zbd_inv hin) hd (kk rfl)
      · cases hz
    · cases hz
  · cases hz
theorem zHaa_ok (hx : p.tables.exec = Jvm.exec) (hb : c.code = cc) (hK : va_K Y.1 vwCl (ztys Y) s) (hz : zHaa len pc st w = some (pc', st', w')) (hd : decode cc pc = .ok (.aaload, len)) (hw : zw Y z0 s H w) (kk : w' = w → W p l e R s m args below meth c H locs cells slots Q (F0 m pc' ls st')) : W p l e R s m args below meth c H locs cells slots Q (F0 m pc ls st) := by
  unfold zHaa at hz
  split at hz
  · rename_i i a r
    split at hz
    · rename_i kd N f ha
      split at hz
      · rename_i hc
        obtain ⟨rfl, hkd, hin⟩ := hc
        simp only [Option.some.injEq, Prod.mk.injEq] at hz
        obtain ⟨rfl, rfl, rfl⟩ := hz
        rcases hkd with rfl | rfl
        · obtain ⟨ws, q, hP, -, hq⟩ := hw.arr ha (by decide)
          exact va_aldq hx hb hK hP q 3 hq rfl (zbd_inv hin) hd (kk rfl)
        · obtain ⟨ws, q, hP, -, hq⟩ := hw.arr ha (by decide)
          exact va_aldq hx hb hK hP q 4 hq rfl (zbd_inv hin) hd (kk rfl)
      · cases hz
    · cases hz
  · cases hz
theorem zHal_ok (hx : p.tables.exec = Jvm.exec) (hb : c.code = cc) (hK : va_K Y.1 vwCl (ztys Y) s) (hz : zHal len pc st w = some (pc', st', w')) (hd : decode cc pc = .ok (.arraylength, len)) (hw : zw Y z0 s H w) (kk : w' = w → W p l e R s m args below meth c H locs cells slots Q (F0 m pc' ls st')) (hno9 : Y.2 9 = Y.2 0) : W p l e R s m args below meth c H locs cells slots Q (F0 m pc ls st) := by
  unfold zHal at hz
  split at hz
  · rename_i a r
    split at hz
    · rename_i kd N f ha
      split at hz
      · rename_i hc
        obtain ⟨rfl, hkd⟩ := hc
        simp only [Option.some.injEq, Prod.mk.injEq] at hz
        obtain ⟨rfl, rfl, rfl⟩ := hz
        rcases hkd with rfl | rfl | rfl | rfl | rfl | rfl
        · obtain ⟨ws, q, hP, -, hq⟩ := hw.arr ha (by decide)
          exact va_alen hx hb hK hP q 0 hq rfl rfl hd (kk rfl)
        · obtain ⟨ws, q, hP, -, hq⟩ := hw.arr ha (by decide)
          exact va_alen hx hb hK hP q 1 hq rfl rfl hd (kk rfl)
        · obtain ⟨ws, q, hP, -, hq⟩ := hw.arr ha (by decide)
          exact va_alen hx hb hK hP q 2 hq rfl rfl hd (kk rfl)
        · obtain ⟨ws, q, hP, -, hq⟩ := hw.arr ha (by decide)
          exact va_alen hx hb hK hP q 3 hq rfl rfl hd (kk rfl)
        · obtain ⟨ws, q, hP, -, hq⟩ := hw.arr ha (by decide)
          exact va_alen hx hb hK hP q 4 hq rfl rfl hd (kk rfl)
        · obtain ⟨-, ws, hP, hD, hA⟩ := hw
          rcases hA a _ ha with ⟨q, hq⟩ | ⟨L, xs, he, -, scr, h1, h2, h3, h4, h5⟩
          · have hq : ws[q]? = some (a, .inl (Y.2 0, N, f)) := by rw [← hno9]; exact hq
            exact va_alen hx hb hK hP q 0 hq rfl rfl hd (kk rfl)
          · simp only [Sum.inl.injEq, Prod.mk.injEq, true_and] at he
            obtain ⟨rfl, -⟩ := he
            exact W.alen (n := Int32.ofNat N) hx hb h1 h2 (by rw [h4] <;> rfl) rfl rfl hd (kk rfl)
      · cases hz
    · cases hz
  · cases hz
theorem zHis_ok (hx : p.tables.exec = Jvm.exec) (hb : c.code = cc) (hK : va_K Y.1 vwCl (ztys Y) s) (hz : zHis len pc st w = some (pc', st', w')) (hd : decode cc pc = .ok (.iastore, len)) (hw : zw Y z0 s H w) (hS : va_S (fun q => z0 ≤ q) s.heap H locs) (kk : ∀ (H1 : Heap) (locs1 : List Loc), zw Y z0 s H1 w' → va_S (fun q => z0 ≤ q) s.heap H1 locs1 → w'.2 = w.2 → W p l e R s m args below meth c H1 locs1 cells slots Q (F0 m pc' ls st')) : W p l e R s m args below meth c H locs cells slots Q (F0 m pc ls st) := by
  unfold zHis at hz
  split at hz
  · rename_i x i a r
    split at hz
    · rename_i kd N f ha
      split at hz
      · rename_i hc
        obtain ⟨rfl, rfl, hin⟩ := hc
        simp only [Option.some.injEq, Prod.mk.injEq] at hz
        obtain ⟨rfl, rfl, rfl⟩ := hz
        have hin := zbd_inv hin
        obtain ⟨ws, q, hP, -, hq⟩ := hw.arr ha (by decide)
        refine W.iast hx hb (hP q _ hq) ((hK.2 0 _ rfl).1 N (fun j => .int (f j))) (fun q => by cases q) (by show ¬ (i < 0 ∨ (arrV _ _ _).slots.size ≤ _); rw [arrV_size]; exact hin) rfl rfl hd fun H1 e1 z1 oq => ?_
        obtain ⟨hw1, h0⟩ := hw.put (e := .inl (0, N, .inl (upd f i.toNatClampNeg x))) ha (fun y => by simp) (by
          show H1[a]? = some (vp_cell _ _)
          rw [e1]
          rw [vp_cell_i, vp_cell_i, arrV_store]
          congr 2
          funext j
          by_cases hj : j = i.toNatClampNeg
          · subst hj
            simp [updV, upd]
          · simp [updV, upd, hj]) z1 oq
        exact kk H1 _ hw1 (hS.put z1 oq h0) rfl
      · cases hz
    · cases hz
  · cases hz
theorem zHbs_ok (hx : p.tables.exec = Jvm.exec) (hb : c.code = cc) (hK : va_K Y.1 vwCl (ztys Y) s) (hz : zHbs len pc st w = some (pc', st', w')) (hd : decode cc pc = .ok (.bastore, len)) (hw : zw Y z0 s H w) (hS : va_S (fun q => z0 ≤ q) s.heap H locs) (kk : ∀ (H1 : Heap) (locs1 : List Loc), zw Y z0 s H1 w' → va_S (fun q => z0 ≤ q) s.heap H1 locs1 → w'.2 = w.2 → W p l e R s m args below meth c H1 locs1 cells slots Q (F0 m pc' ls st')) : W p l e R s m args below meth c H locs cells slots Q (F0 m pc ls st) := by
  unfold zHbs at hz
  split at hz
  · rename_i x i a r
    split at hz
    · rename_i kd N f ha
      split at hz
      · rename_i hc
        obtain ⟨rfl, rfl, hin⟩ := hc
        simp only [Option.some.injEq, Prod.mk.injEq] at hz
        obtain ⟨rfl, rfl, rfl⟩ := hz
        have hin := zbd_inv hin
        obtain ⟨ws, q, hP, -, hq⟩ := hw.arr ha (by decide)
        refine W.zast hx hb (hP q _ hq) ((hK.2 2 _ rfl).1 N (fun j => .int (f j))) (fun q => by cases q) (by show ¬ (i < 0 ∨ (arrV _ _ _).slots.size ≤ _); rw [arrV_size]; exact hin) rfl rfl hd fun H1 e1 z1 oq => ?_
        obtain ⟨hw1, h0⟩ := hw.put (e := .inl (2, N, .inl (upd f i.toNatClampNeg (vp_nar .boolean x)))) ha (fun y => by simp) (by
          show H1[a]? = some (vp_cell _ _)
          rw [e1]
          rw [vp_cell_i, vp_cell_i, arrV_store]
          congr 2
          funext j
          by_cases hj : j = i.toNatClampNeg
          · subst hj
            simp [updV, upd, vp_nar]
            try rfl
          · simp [updV, upd, hj]) z1 oq
        exact kk H1 _ hw1 (hS.put z1 oq h0) rfl
      · cases hz
    · cases hz
  · cases hz
theorem zHls_ok (hx : p.tables.exec = Jvm.exec) (hb : c.code = cc) (hK : va_K Y.1 vwCl (ztys Y) s) (hz : zHls len pc st w = some (pc', st', w')) (hd : decode cc pc = .ok (.lastore, len)) (hw : zw Y z0 s H w) (hS : va_S (fun q => z0 ≤ q) s.heap H locs) (kk : ∀ (H1 : Heap) (locs1 : List Loc), zw Y z0 s H1 w' → va_S (fun q => z0 ≤ q) s.heap H1 locs1 → w'.2 = w.2 → W p l e R s m args below meth c H1 locs1 cells slots Q (F0 m pc' ls st')) : W p l e R s m args below meth c H locs cells slots Q (F0 m pc ls st) := by
  unfold zHls at hz
  split at hz
  · rename_i x i a r
    split at hz
    · rename_i kd N f ha
      split at hz
      · rename_i hc
        obtain ⟨rfl, rfl, hin⟩ := hc
        simp only [Option.some.injEq, Prod.mk.injEq] at hz
        obtain ⟨rfl, rfl, rfl⟩ := hz
        have hin := zbd_inv hin
        obtain ⟨ws, q, hP, -, hq⟩ := hw.arr ha (by decide)
        refine W.last hx hb (hP q _ hq) ((hK.2 1 _ rfl).1 N (fun j => .long (f j))) (fun q => by cases q) (by show ¬ (i < 0 ∨ (arrV _ _ _).slots.size ≤ _); rw [arrV_size]; exact hin) rfl rfl hd fun H1 e1 z1 oq => ?_
        obtain ⟨hw1, h0⟩ := hw.put (e := .inl (1, N, .inr (.inl (vp_updL f i.toNatClampNeg x)))) ha (fun y => by simp) (by
          show H1[a]? = some (vp_cell _ _)
          rw [e1]
          rw [vp_cell_l, vp_cell_l, arrV_store]
          congr 2
          funext j
          by_cases hj : j = i.toNatClampNeg
          · subst hj
            simp [updV, vp_updL]
          · simp [updV, vp_updL, hj]) z1 oq
        exact kk H1 _ hw1 (hS.put z1 oq h0) rfl
      · cases hz
    · cases hz
  · cases hz
end ZHR
