/-! arrays of references, casts, constants, the library's small calls -/
/-- calls by number -/
def zcl (o idx : Nat) : Option (Nat × Nat × Nat × Nat) := (zCl.find? (fun e => e.1 == o && e.2.1 == idx)).map (fun e => e.2.2)
def zclv (o idx ci : Nat) : Option (Nat × Nat × Nat × Nat) := (zCl.find? (fun e => e.1 == o && e.2.1 == idx && e.2.2.2.1 == ci)).map (fun e => e.2.2)
def zsum (r : List Value) : Nat := (r.map fun v => v.category).sum
/-- Object's constructor, min, max, arraycopy -/
def zHob (o d idx len pc : Nat) (st : List Value) (w : zW) : Option zG := match st with
  | .ref _ :: r => if len = 3 ∧ 1 ≤ d ∧ zsum r ≤ 8 ∧ zcl o idx = some (6, 0, 0, 0) then some (pc + 3, r, w) else none
  | _ => none
def zHmm (o d idx len pc : Nat) (st : List Value) (w : zW) : Option zG := match st with
  | .int y :: .int x :: r => if len = 3 ∧ 1 ≤ d ∧ zsum r ≤ 8 then (if zcl o idx = some (8, 0, 0, 2) then some (pc + 3, .int (if y < x then y else x) :: r, w) else if zcl o idx = some (9, 0, 0, 2) then some (pc + 3, .int (if x < y then y else x) :: r, w) else none) else none
  | _ => none
def zHcp (o d idx len pc : Nat) (st : List Value) (w : zW) : Option zG := match st with
  | .int n :: .int dp :: .ref a :: .int sp :: .ref a0 :: r => if len = 3 ∧ 1 ≤ d ∧ zsum r ≤ 8 ∧ zcl o idx = some (7, 0, 0, 5) ∧ ¬ sp < 0 ∧ ¬ dp < 0 ∧ ¬ n < 0 then (match w.1 a0, w.1 a with
    | some (.inl (0, n0, .inl f)), some (.inl (0, n1, .inl g)) => if sp.toNatClampNeg + n.toNatClampNeg ≤ n0 ∧ dp.toNatClampNeg + n.toNatClampNeg ≤ n1 then some (pc + 3, r, (va_up w.1 a (some (.inl (0, n1, .inl (va_cpy f g sp.toNatClampNeg dp.toNatClampNeg n.toNatClampNeg)))), w.2)) else none
    | some (.inl (1, n0, .inr (.inl f))), some (.inl (1, n1, .inr (.inl g))) => if sp.toNatClampNeg + n.toNatClampNeg ≤ n0 ∧ dp.toNatClampNeg + n.toNatClampNeg ≤ n1 then some (pc + 3, r, (va_up w.1 a (some (.inl (1, n1, .inr (.inl (va_cpy f g sp.toNatClampNeg dp.toNatClampNeg n.toNatClampNeg))))), w.2)) else none
    | _, _ => none) else none
  | _ => none
def zHl2 (o idx len pc : Nat) (st : List Value) (w : zW) : Option zG := match zlk o idx with
  | some v => if len = 3 then some (pc + 3, .long v :: st, w) else none
  | none => none
def zHlw (o idx len pc : Nat) (st : List Value) (w : zW) : Option zG := match zik o idx with
  | some v => if len = 3 then some (pc + 3, .int v :: st, w) else none
  | none => none
def zClB (e : Nat × Nat × Nat × Nat × Nat × Nat) : Bool := match e.2.2.1 with
  | 6 => decide (Cond.methodLink (zOwn e.1) e.2.1 objectInit ∈ zT)
  | 7 => decide (Cond.methodLink (zOwn e.1) e.2.1 arraycopyName ∈ zT)
  | 8 => decide (Cond.methodLink (zOwn e.1) e.2.1 Lib.Math.min.name ∈ zT)
  | 9 => decide (Cond.methodLink (zOwn e.1) e.2.1 Lib.Math.max.name ∈ zT)
  | _ => true
theorem zCl_ok : zCl.all zClB = true := by decide +kernel
theorem zcl_inv {o idx : Nat} {q : Nat × Nat × Nat × Nat} (h : zcl o idx = some q) : (o, idx, q) ∈ zCl := by
  unfold zcl at h
  cases hf : zCl.find? (fun e => e.1 == o && e.2.1 == idx) with
  | none => rw [hf] at h; cases h
  | some e =>
    rw [hf] at h
    simp only [Option.map_some, Option.some.injEq] at h
    have hp := List.find?_some hf
    simp only [Bool.and_eq_true, beq_iff_eq] at hp
    rw [← hp.1, ← hp.2, ← h]
    exact List.mem_of_find?_eq_some hf
theorem zclv_inv {o idx ci : Nat} {q : Nat × Nat × Nat × Nat} (h : zclv o idx ci = some q) : (o, idx, q) ∈ zCl ∧ q.2.1 = ci := by
  unfold zclv at h
  cases hf : zCl.find? (fun e => e.1 == o && e.2.1 == idx && e.2.2.2.1 == ci) with
  | none => rw [hf] at h; cases h
  | some e =>
    rw [hf] at h
    simp only [Option.map_some, Option.some.injEq] at h
    have hp := List.find?_some hf
    simp only [Bool.and_eq_true, beq_iff_eq] at hp
    refine ⟨?_, by rw [← h]; exact hp.2⟩
    rw [← hp.1.1, ← hp.1.2, ← h]
    exact List.mem_of_find?_eq_some hf
theorem zfix : Cond.instanceMethod objectInit ∈ zT ∧ Cond.code objectInit ⟨#[0xb1]⟩ 1 none ∈ zT ∧ Cond.static Lib.Math.min.name ∈ zT ∧ Cond.initialized "java/lang/Math" ∈ zT ∧ Cond.code Lib.Math.min.name Lib.Math.min.code 2 (some .int) ∈ zT ∧ Cond.static Lib.Math.max.name ∈ zT ∧ Cond.code Lib.Math.max.name Lib.Math.max.code 2 (some .int) ∈ zT ∧ Cond.native arraycopyName ∈ zT ∧ Cond.static arraycopyName ∈ zT ∧ Cond.initialized "java/lang/System" ∈ zT := by decide +kernel
section ZHO
variable {p : Program} {l : Launch} {e : Env} {R : Room} {s : State} {m : MethodId} {args : Array Value} {below : List Frame} {meth : Method} {c : Code} {H : Heap} {locs : List Loc} {cells slots : Nat} {Q : State → Prop}
variable {cc : ByteArray} {pc len : Nat} {ls : Array Slot} {st st' : List Value} {pc' : Nat} {Y : zY} {z0 : Nat} {w w' : zW}
theorem zHnq_ok {o idx : Nat} (hx : p.tables.exec = Jvm.exec) (hb : c.code = cc) (hts : ∀ w ∈ zT, w.before args s = true) (hown : s.vm.findClass (zOwn o) = some m.cls) (hKz : zK Y s) (hz : zHnq o idx len pc st w = some (pc', st', w')) (hd : decode cc pc = .ok (.anewarray idx, len)) (hw : zw Y z0 s H w) (h0 : z0 ≤ s.heap.size) (hS : va_S (fun q => z0 ≤ q) s.heap H locs) (hcells : cells + (w'.2.1 - w.2.1) ≤ R.cells) (hslots : slots + (w'.2.2 - w.2.2) ≤ R.slots) (kk : ∀ (H1 : Heap) (locs1 : List Loc), zw Y z0 s H1 w' → va_S (fun q => z0 ≤ q) s.heap H1 locs1 → W p l e R s m args below meth c H1 locs1 (cells + (w'.2.1 - w.2.1)) (slots + (w'.2.2 - w.2.2)) Q (F0 m pc' ls st')) : W p l e R s m args below meth c H locs cells slots Q (F0 m pc ls st) := by
  obtain ⟨hK, h9, hA2, hA5, -⟩ := hKz
  have go : ∀ (kd : Nat) (C : String), (ztys Y)[kd]? = some (Y.2 kd, .object C) → Cond.classLink (zOwn o) idx C ∈ zT → va_AO C s → ∀ (n : Int32) (r : List Value), ¬ n < 0 → n.toNatClampNeg ≤ 67108864 → st = .int n :: r → pc' = pc + 3 → st' = .ref w.2.1 :: r → w' = (va_up w.1 w.2.1 (some (.inl (kd, n.toNatClampNeg, .inr (.inr (.inr (.inr (fun _ => none))))))), w.2.1 + 1, w.2.2 + n.toNatClampNeg) → len = 3 → W p l e R s m args below meth c H locs cells slots Q (F0 m pc ls st) := by
    rintro kd C ht hlk hAO n r hn hN rfl rfl rfl rfl rfl
    dsimp only at hcells hslots kk
    rw [Nat.add_sub_cancel_left] at hcells hslots kk
    rw [Nat.add_sub_cancel_left] at kk
    refine W.anew hx hb hown (hts _ hlk) (va_AO.use hAO) rfl hd rfl hn (by omega) hcells hslots fun cA kA comp f1 f2 f3 f4 => ?_
    obtain ⟨kA', comp', -, -, -, g4⟩ := (hK.2 kd _ ht).2
    obtain rfl : cA = Y.2 kd := Option.some.inj (f1.symm.trans g4)
    generalize hH1 : H.push ({ cls := Y.2 kd, slots := Array.replicate n.toNatClampNeg .null, vm := .none } : Cell) = H1
    have z1 : H1.size = H.size + 1 := by rw [← hH1, Array.size_push]
    have e1 : H1[H.size]? = some (arrV (Y.2 kd) n.toNatClampNeg (fun _ => .null)) := by rw [← hH1, Array.getElem?_push_size, ← arrV_new]
    have o1 : ∀ q : Nat, q < H.size → H1[q]? = H[q]? := fun q hq => by rw [← hH1, Array.getElem?_push, if_neg (Nat.ne_of_lt hq)]
    have hk := kk H1 locs (hw.new (e := .inl (kd, n.toNatClampNeg, .inr (.inr (.inr (.inr (fun _ => none)))))) (Nat.le_trans h0 hS.1) (by show H1[H.size]? = some (vp_cell _ _); rw [e1]; rfl) z1 o1 _) ⟨Nat.le_trans hS.1 (by omega), fun x h1 h2 => (o1 x (Nat.lt_of_lt_of_le h1 hS.1)).trans (hS.2.1 x h1 h2), hS.2.2⟩
    rw [← hw.1] at hk
    exact hk
  have hlks : Cond.classLink (zOwn 6) 16 RX2 ∈ zT ∧ Cond.classLink (zOwn 3) 9 RX5 ∈ zT := by decide +kernel
  unfold zHnq at hz
  split at hz
  · rename_i n r
    split at hz
    · rename_i kd hkd
      split at hz
      · rename_i hc
        obtain ⟨hl, hn, hN⟩ := hc
        simp only [Option.some.injEq, Prod.mk.injEq] at hz
        obtain ⟨e1, e2, e3⟩ := hz
        unfold zan at hkd
        split at hkd
        · rename_i ho
          obtain ⟨rfl, rfl⟩ := ho
          cases hkd
          exact go 3 RX2 rfl hlks.1 hA2 n r hn hN rfl e1.symm e2.symm e3.symm hl
        · split at hkd
          · rename_i ho
            obtain ⟨rfl, rfl⟩ := ho
            cases hkd
            exact go 4 RX5 rfl hlks.2 hA5 n r hn hN rfl e1.symm e2.symm e3.symm hl
          · cases hkd
      · cases hz
    · cases hz
  · cases hz
theorem zHas_ok (hx : p.tables.exec = Jvm.exec) (hb : c.code = cc) (hKz : zK Y s) (hz : zHas len pc st w = some (pc', st', w')) (hd : decode cc pc = .ok (.aastore, len)) (hw : zw Y z0 s H w) (hS : va_S (fun q => z0 ≤ q) s.heap H locs) (kk : ∀ (H1 : Heap) (locs1 : List Loc), zw Y z0 s H1 w' → va_S (fun q => z0 ≤ q) s.heap H1 locs1 → w'.2 = w.2 → W p l e R s m args below meth c H1 locs1 cells slots Q (F0 m pc' ls st')) : W p l e R s m args below meth c H locs cells slots Q (F0 m pc ls st) := by
  obtain ⟨hK, h9, hA2, hA5, hc02, hc32, -⟩ := hKz
  have go : ∀ (kd ci N v a : Nat) (E : String) (f : Nat → Option Nat) (fs : List Value) (i : Int32) (r : List Value), (ztys Y)[kd]? = some (Y.2 kd, .object E) → kd ≠ 9 → ci < 6 → (∀ comp : ClassId, s.vm.findClass E = some comp → s.vm.assignable (Y.1.1 ci) comp = true) → w.1 a = some (.inl (kd, N, .inr (.inr (.inr (.inr f))))) → w.1 v = some (.inr (ci, fs)) → zbd i N = true → st = .ref v :: .int i :: .ref a :: r → pc' = pc + 1 → st' = r → w' = (va_up w.1 a (some (.inl (kd, N, .inr (.inr (.inr (.inr (va_up f i.toNatClampNeg (some v)))))))), w.2) → len = 1 → W p l e R s m args below meth c H locs cells slots Q (F0 m pc ls st) := by
    rintro kd ci N v a E f fs i r ht h9 hci hasg ha hv hin rfl rfl rfl rfl rfl
    have hin := zbd_inv hin
    have hlt : i.toNatClampNeg < N := Nat.not_le.mp fun q => hin (Or.inr q)
    have hi0 : ¬ i < 0 := fun q => hin (Or.inl q)
    obtain ⟨ws, q, hP, -, hq⟩ := hw.arr ha h9
    obtain ⟨ws', q', hP', -, hq'⟩ := hw.obj hv
    obtain ⟨r', hr', cellV, g1, g2, g3, -⟩ := hP' q' _ hq'
    have hcls := (hK.1 ci _ (ztab_in hci)).2
    obtain ⟨kA, comp, k1, k2, k3, -⟩ := (hK.2 kd _ ht).2
    obtain ⟨kE, hkE, -⟩ := Vm.findClass_spec k3
    obtain ⟨kC, hkC, -⟩ := hcls.2
    refine W.aast hx hb (hP q _ hq) (fun q h => by cases h) (fun h => by cases h) k1 k2 rfl hkE ⟨hi0, by show _ < (arrV _ _ _).slots.size; rw [arrV_size]; exact hlt⟩ g1 (fun q h => by rw [g3] at h; cases h) (by rw [g2]; exact hkC) (by rw [g2]; exact hasg comp k3) rfl rfl hd fun H1 e1 z1 oq => ?_
    obtain ⟨hw1, h0⟩ := hw.put (e := .inl (kd, N, .inr (.inr (.inr (.inr (va_up f i.toNatClampNeg (some v))))))) ha (fun y => by simp [h9]) (by
      show H1[a]? = some (vp_cell _ _)
      rw [e1]
      rw [vp_cell_q, vp_cell_q, arrV_store]
      congr 2
      funext j
      by_cases hj : j = i.toNatClampNeg
      · subst hj
        simp [updV, va_up, va_rf]
      · simp [updV, va_up, hj]) z1 oq
    exact kk H1 _ hw1 (hS.put z1 oq h0) rfl
  have cast : ∀ (ci : Nat) (E : String), ci < 6 → va_Nw (.castable (ztab ci).1 E) s → ∀ comp : ClassId, s.vm.findClass E = some comp → s.vm.assignable (Y.1.1 ci) comp = true := by
    intro ci E hci hca comp hE
    obtain ⟨c0, t1, f1, f2, f3⟩ := Cond.castable_spec (va_Nw.use (A := args) rfl hca)
    have hcls := (hK.1 ci _ (ztab_in hci)).2
    cases hcls.1.symm.trans f1
    cases hE.symm.trans f2
    exact f3
  unfold zHas at hz
  split at hz
  · rename_i v i a r
    split at hz
    · rename_i kd N f ci fs ha hv
      split at hz
      · rename_i hc
        obtain ⟨hl, hkd, hin⟩ := hc
        simp only [Option.some.injEq, Prod.mk.injEq] at hz
        obtain ⟨e1, e2, e3⟩ := hz
        rcases hkd with ⟨rfl, rfl | rfl⟩ | ⟨rfl, rfl⟩
        · exact go 3 0 N v a RX2 f fs i r rfl (by decide) (by decide) (cast 0 RX2 (by decide) hc02) ha hv hin rfl e1.symm e2.symm e3.symm hl
        · exact go 3 2 N v a RX2 f fs i r rfl (by decide) (by decide) (cast 2 RX2 (by decide) hc32) ha hv hin rfl e1.symm e2.symm e3.symm hl
        · refine go 4 3 N v a RX5 f fs i r rfl (by decide) (by decide) ?_ ha hv hin rfl e1.symm e2.symm e3.symm hl
          intro comp hE
          have hcls := (hK.1 3 _ (ztab_in (by decide))).2
          obtain rfl : comp = Y.1.1 3 := Option.some.inj (hE.symm.trans hcls.1)
          exact va_assign hcls
      · cases hz
    · cases hz
  · cases hz
theorem zrecv {a ci : Nat} {fs : List Value} (hK : va_K Y.1 vwCl (ztys Y) s) (hw : zw Y z0 s H w) (ha : w.1 a = some (.inr (ci, fs))) : ci < 6 ∧ ∃ cell : Cell, H[a]? = some cell ∧ cell.vm.isStatics = false ∧ s.vm.findClass (ztab ci).1 = some cell.cls := by
  obtain ⟨ws, q, hP, -, hq⟩ := hw.obj ha
  obtain ⟨r, hr, -⟩ := hP q _ hq
  obtain ⟨hci, rfl⟩ := ztab_ok hr
  exact ⟨hci, va_recv hK hP (ci := ci) (q0 := q) hr hq⟩
theorem zHin_ok {o idx : Nat} (hx : p.tables.exec = Jvm.exec) (hb : c.code = cc) (hts : ∀ w ∈ zT, w.before args s = true) (hown : s.vm.findClass (zOwn o) = some m.cls) (hKz : zK Y s) (hz : zHin o idx len pc st w = some (pc', st', w')) (hd : decode cc pc = .ok (.instanceof idx, len)) (hw : zw Y z0 s H w) (kk : w' = w → W p l e R s m args below meth c H locs cells slots Q (F0 m pc' ls st')) : W p l e R s m args below meth c H locs cells slots Q (F0 m pc ls st) := by
  obtain ⟨hK, h9, hA2, hA5, hc02, hc32, hc33, hn03, -⟩ := hKz
  have hlk : Cond.classLink (zOwn 6) 128 RX3 ∈ zT := by decide +kernel
  unfold zHin at hz
  split at hz
  · split at hz
    · rename_i hl
      subst hl
      simp only [Option.some.injEq, Prod.mk.injEq] at hz
      obtain ⟨rfl, rfl, rfl⟩ := hz
      exact lv_instN hx hb hd (kk rfl)
    · cases hz
  · rename_i a r
    split at hz
    · rename_i ci fs ha
      split at hz
      · rename_i hc
        obtain ⟨rfl, rfl, rfl, hci⟩ := hc
        simp only [Option.some.injEq, Prod.mk.injEq] at hz
        obtain ⟨rfl, rfl, rfl⟩ := hz
        obtain ⟨-, hr⟩ := zrecv hK hw ha
        rcases hci with rfl | rfl
        · exact va_instNo hx hb hown (hts _ hlk) hn03 hr hd (kk rfl)
        · exact va_instY hx hb hown (hts _ hlk) hc33 hr hd (kk rfl)
      · cases hz
    · cases hz
  · cases hz
theorem zHcc_ok {o idx : Nat} (hx : p.tables.exec = Jvm.exec) (hb : c.code = cc) (hts : ∀ w ∈ zT, w.before args s = true) (hown : s.vm.findClass (zOwn o) = some m.cls) (hKz : zK Y s) (hz : zHcc o idx len pc st w = some (pc', st', w')) (hd : decode cc pc = .ok (.checkcast idx, len)) (hw : zw Y z0 s H w) (kk : w' = w → W p l e R s m args below meth c H locs cells slots Q (F0 m pc' ls st')) : W p l e R s m args below meth c H locs cells slots Q (F0 m pc ls st) := by
  obtain ⟨hK, h9, hA2, hA5, hc02, hc32, hc33, hn03, -⟩ := hKz
  have hlk : Cond.classLink (zOwn 6) 128 RX3 ∈ zT := by decide +kernel
  unfold zHcc at hz
  split at hz
  · rename_i a r
    split at hz
    · rename_i ci fs ha
      split at hz
      · rename_i hc
        obtain ⟨rfl, rfl, rfl, rfl⟩ := hc
        simp only [Option.some.injEq, Prod.mk.injEq] at hz
        obtain ⟨rfl, rfl, rfl⟩ := hz
        obtain ⟨-, hr⟩ := zrecv hK hw ha
        exact va_castY hx hb hown (hts _ hlk) hc33 hr hd (kk rfl)
      · cases hz
    · cases hz
  · cases hz
theorem zHl2_ok {o idx : Nat} (hx : p.tables.exec = Jvm.exec) (hb : c.code = cc) (hts : ∀ w ∈ zT, w.before args s = true) (hown : s.vm.findClass (zOwn o) = some m.cls) (hz : zHl2 o idx len pc st w = some (pc', st', w')) (hd : decode cc pc = .ok (.ldc2_w idx, len)) (kk : w' = w → W p l e R s m args below meth c H locs cells slots Q (F0 m pc' ls st')) : W p l e R s m args below meth c H locs cells slots Q (F0 m pc ls st) := by
  unfold zHl2 at hz
  split at hz
  · rename_i v hv
    split at hz
    · rename_i hl
      subst hl
      simp only [Option.some.injEq, Prod.mk.injEq] at hz
      obtain ⟨rfl, rfl, rfl⟩ := hz
      exact lv_ldc2 hx hb hown (hts _ (zlk_inv hv)) hd (kk rfl)
    · cases hz
  · cases hz
theorem zHlw_ok {o idx : Nat} (hx : p.tables.exec = Jvm.exec) (hb : c.code = cc) (hts : ∀ w ∈ zT, w.before args s = true) (hown : s.vm.findClass (zOwn o) = some m.cls) (hz : zHlw o idx len pc st w = some (pc', st', w')) (hd : decode cc pc = .ok (.ldc_w idx, len)) (kk : w' = w → W p l e R s m args below meth c H locs cells slots Q (F0 m pc' ls st')) : W p l e R s m args below meth c H locs cells slots Q (F0 m pc ls st) := by
  unfold zHlw at hz
  split at hz
  · rename_i v hv
    split at hz
    · rename_i hl
      subst hl
      simp only [Option.some.injEq, Prod.mk.injEq] at hz
      obtain ⟨rfl, rfl, rfl⟩ := hz
      exact lv_ldcw hx hb hown (hts _ (zik_inv hv)) hd (kk rfl)
    · cases hz
  · cases hz
theorem zHob_ok {o d idx : Nat} (hx : p.tables.exec = Jvm.exec) (hb : c.code = cc) (hml : c.maxLocals = ls.size) (hts : ∀ w ∈ zT, w.before args s = true) (hown : s.vm.findClass (zOwn o) = some m.cls) (hz : zHob o d idx len pc st w = some (pc', st', w')) (hd : decode cc pc = .ok (.invokespecial idx, len)) (hfr : d ≤ R.frames) (hlo : 60 * d ≤ R.locals) (kk : w' = w → W p l e R s m args below meth c H locs cells slots Q (F0 m pc' ls st')) : W p l e R s m args below meth c H locs cells slots Q (F0 m pc ls st) := by
  unfold zHob at hz
  split at hz
  · rename_i a r
    split at hz
    · rename_i hc
      obtain ⟨rfl, hd1, hr8, hcl⟩ := hc
      simp only [Option.some.injEq, Prod.mk.injEq] at hz
      obtain ⟨rfl, rfl, rfl⟩ := hz
      have h1 := List.all_eq_true.mp zCl_ok _ (zcl_inv hcl)
      unfold zsum at hr8
      refine W.objInit hx hb hown (hts _ (of_decide_eq_true h1)) (hts _ zfix.1) (hts _ zfix.2.1) rfl hml.symm rfl hd (by omega) (by show 2 * 0 + _ + 12 ≤ _; omega) ?_
      exact kk rfl
    · cases hz
  · cases hz
theorem zHmm_ok {o d idx : Nat} (hx : p.tables.exec = Jvm.exec) (hb : c.code = cc) (hml : c.maxLocals = ls.size) (hts : ∀ w ∈ zT, w.before args s = true) (hown : s.vm.findClass (zOwn o) = some m.cls) (hz : zHmm o d idx len pc st w = some (pc', st', w')) (hd : decode cc pc = .ok (.invokestatic idx, len)) (hfr : d ≤ R.frames) (hlo : 60 * d ≤ R.locals) (hce : cells ≤ R.cells) (hsl : slots ≤ R.slots) (kk : w' = w → W p l e R s m args below meth c H locs cells slots Q (F0 m pc' ls st')) : W p l e R s m args below meth c H locs cells slots Q (F0 m pc ls st) := by
  unfold zHmm at hz
  split at hz
  · rename_i y x r
    split at hz
    · rename_i hc
      obtain ⟨rfl, hd1, hr8⟩ := hc
      unfold zsum at hr8
      obtain ⟨f1, f2, f3, f4, f5, f6, f7, -⟩ := zfix
      split at hz
      · rename_i hcl
        simp only [Option.some.injEq, Prod.mk.injEq] at hz
        obtain ⟨rfl, rfl, rfl⟩ := hz
        have h1 := List.all_eq_true.mp zCl_ok _ (zcl_inv hcl)
        exact va_mmin hx hb hml hown (hts _ (of_decide_eq_true h1)) (hts _ f3) (hts _ f4) (hts _ f5) (by omega) (by omega) hce hsl hd (kk rfl)
      · split at hz
        · rename_i hcl
          simp only [Option.some.injEq, Prod.mk.injEq] at hz
          obtain ⟨rfl, rfl, rfl⟩ := hz
          have h1 := List.all_eq_true.mp zCl_ok _ (zcl_inv hcl)
          exact va_mmax hx hb hml hown (hts _ (of_decide_eq_true h1)) (hts _ f6) (hts _ f4) (hts _ f7) (by omega) (by omega) hce hsl hd (kk rfl)
        · cases hz
    · cases hz
  · cases hz
end ZHO
