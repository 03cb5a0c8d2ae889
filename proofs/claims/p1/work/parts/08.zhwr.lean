/-! fields written, cells made, casts, constants -/
def ztyp (ci k : Nat) : FieldType := match ci with
  | 0 => tyX0 k
  | 1 => tyX1 k
  | 2 => tyX3 k
  | 3 => tyX5 k
  | 4 => tyX6 k
  | _ => tyX7 k
def ztab (ci : Nat) : String × u_T × Nat := match ci with
  | 0 => (RX0, TX0, 8)
  | 1 => (RX1, TX1, 7)
  | 2 => (RX3, TX3, 11)
  | 3 => (RX5, TX5, 3)
  | 4 => (RX6, TX6, 3)
  | _ => (RX7, TX7, 24)
theorem ztab_ok {ci : Nat} {q : vw_C} (h : vwCl[ci]? = some q) : ci < 6 ∧ q = ztab ci := by
  have hlt : ci < 6 := (List.getElem?_eq_some_iff.mp h).1
  refine ⟨hlt, ?_⟩
  match ci, hlt, h with
  | 0, _, h => exact (Option.some.inj h).symm
  | 1, _, h => exact (Option.some.inj h).symm
  | 2, _, h => exact (Option.some.inj h).symm
  | 3, _, h => exact (Option.some.inj h).symm
  | 4, _, h => exact (Option.some.inj h).symm
  | 5, _, h => exact (Option.some.inj h).symm
theorem ztab_in {ci : Nat} (h : ci < 6) : vwCl[ci]? = some (ztab ci) := by
  match ci, h with
  | 0, _ => rfl
  | 1, _ => rfl
  | 2, _ => rfl
  | 3, _ => rfl
  | 4, _ => rfl
  | 5, _ => rfl
theorem ztyp_ok {ci : Nat} (h : ci < 6) : ∀ k, k < (ztab ci).2.2 → parseFieldDescriptor ((ztab ci).2.1 k).2.2.1 = some (ztyp ci k) := by
  match ci, h with
  | 0, _ => exact tyX0_ok
  | 1, _ => exact tyX1_ok
  | 2, _ => exact tyX3_ok
  | 3, _ => exact tyX5_ok
  | 4, _ => exact tyX6_ok
  | 5, _ => exact tyX7_ok
theorem znm_ok {ci : Nat} (h : ci < 6) : ∀ a, a < (ztab ci).2.2 → ∀ b, b < (ztab ci).2.2 → a ≠ b → ((ztab ci).2.1 a).2.1 ≠ ((ztab ci).2.1 b).2.1 := by
  match ci, h with
  | 0, _ => exact nmX0
  | 1, _ => exact nmX1
  | 2, _ => exact nmX3
  | 3, _ => exact nmX5
  | 4, _ => exact nmX6
  | 5, _ => exact nmX7
def zokv (ty : FieldType) (v : Value) : Bool := match ty, v with
  | .int, .int _ => true
  | .long, .long _ => true
  | .object _, .ref _ => true
  | .object _, .null => true
  | .array _, .ref _ => true
  | .array _, .null => true
  | _, _ => false
theorem zokv_ok {ty : FieldType} {v : Value} (h : zokv ty v = true) : narrow ty v = v ∧ fits ty v = true := by
  unfold zokv at h
  split at h <;> first | exact ⟨rfl, rfl⟩ | cases h
def zfin (o ci k : Nat) (ini : Bool) : Bool := !((ztab ci).2.1 k).2.2.2 || (ini && decide (((ztab ci).2.1 k).1 = zOwn o))
def zHput (o : Nat) (ini : Bool) (idx len pc : Nat) (st : List Value) (w : zW) : Option zG := match st with
  | v :: .ref a :: r => match w.1 a, zfl o idx with
    | some (.inr (ci, fs)), some (k, cs) => if len = 3 ∧ ci ∈ cs ∧ k < fs.length ∧ zokv (ztyp ci k) v = true ∧ zfin o ci k ini = true then some (pc + 3, r, (va_up w.1 a (some (.inr (ci, fs.set k v))), w.2)) else none
    | _, _ => none
  | _ => none
/-- classes by number, as a class names them -/
def zCk : List (Nat × Nat × Nat) := [(8, 7, 4), (8, 10, 5), (3, 9, 3), (6, 128, 2), (6, 156, 0), (6, 9, 1)]
def zck (o idx : Nat) : Option Nat := (zCk.find? (fun e => e.1 == o && e.2.1 == idx)).map (fun e => e.2.2)
def zCkB (e : Nat × Nat × Nat) : Bool := decide (e.2.2 < 6) && decide (Cond.classLink (zOwn e.1) e.2.1 (ztab e.2.2).1 ∈ zT) && decide (Cond.instantiable (ztab e.2.2).1 (ztab e.2.2).2.2 ∈ zT) && decide (Cond.initialized (ztab e.2.2).1 ∈ zT)
theorem zCk_ok : zCk.all zCkB = true := by decide +kernel
theorem zck_inv {o idx ci : Nat} (h : zck o idx = some ci) : ci < 6 ∧ Cond.classLink (zOwn o) idx (ztab ci).1 ∈ zT ∧ Cond.instantiable (ztab ci).1 (ztab ci).2.2 ∈ zT ∧ Cond.initialized (ztab ci).1 ∈ zT := by
  unfold zck at h
  cases hf : zCk.find? (fun e => e.1 == o && e.2.1 == idx) with
  | none => rw [hf] at h; cases h
  | some e =>
    rw [hf] at h
    simp only [Option.map_some, Option.some.injEq] at h
    have hm := List.mem_of_find?_eq_some hf
    have hp := List.find?_some hf
    simp only [Bool.and_eq_true, beq_iff_eq] at hp
    have h1 := List.all_eq_true.mp zCk_ok e hm
    obtain ⟨o', i', c'⟩ := e
    dsimp only at h hp h1
    obtain ⟨rfl, rfl⟩ := hp
    subst h
    unfold zCkB at h1
    simp only [Bool.and_eq_true, decide_eq_true_eq] at h1
    exact ⟨h1.1.1.1, h1.1.1.2, h1.1.2, h1.2⟩
def zdf (ci : Nat) : List Value := match ci with
  | 0 => [.null, .null, .null, .null, .null, .int 0, .null, .null]
  | 1 => [.null, .null, .null, .null, .int 0, .int 0, .int 0]
  | 2 => [.null, .null, .null, .null, .null, .int 0, .int 0, .null, .null, .null, .null]
  | 3 => [.int 0, .null, .null]
  | 4 => [.null, .null, .null]
  | _ => [.int 0, .null, .int 0, .null, .null, .null, .null, .null, .null, .int 0, .int 0, .null, .null, .long 0, .null, .null, .int 0, .null, .int 0, .null, .null, .null, .null, .null]
theorem zdf_ok {ci : Nat} (h : ci < 6) : ∀ j, j < (ztab ci).2.2 → defaultValue (ztyp ci j) = vp_V (zdf ci) j := by
  match ci, h with
  | 0, _ => decide +kernel
  | 1, _ => decide +kernel
  | 2, _ => decide +kernel
  | 3, _ => decide +kernel
  | 4, _ => decide +kernel
  | 5, _ => decide +kernel
def zHnew (o idx len pc : Nat) (st : List Value) (w : zW) : Option zG := match zck o idx with
  | some ci => if len = 3 then some (pc + 3, .ref w.2.1 :: st, (va_up w.1 w.2.1 (some (.inr (ci, zdf ci))), w.2.1 + 1, w.2.2 + (ztab ci).2.2)) else none
  | none => none
def zHna (t : ArrayType) (len pc : Nat) (st : List Value) (w : zW) : Option zG := match st with
  | .int n :: r => if len = 2 ∧ ¬ n < 0 ∧ n.toNatClampNeg ≤ 67108864 then (match t with
    | .int => some (pc + 2, .ref w.2.1 :: r, (va_up w.1 w.2.1 (some (.inl (0, n.toNatClampNeg, .inl (fun _ => 0)))), w.2.1 + 1, w.2.2 + n.toNatClampNeg))
    | .long => some (pc + 2, .ref w.2.1 :: r, (va_up w.1 w.2.1 (some (.inl (1, n.toNatClampNeg, .inr (.inl (fun _ => 0))))), w.2.1 + 1, w.2.2 + n.toNatClampNeg))
    | .boolean => some (pc + 2, .ref w.2.1 :: r, (va_up w.1 w.2.1 (some (.inl (2, n.toNatClampNeg, .inl (fun _ => 0)))), w.2.1 + 1, w.2.2 + n.toNatClampNeg))
    | _ => none) else none
  | _ => none
def zan (o idx : Nat) : Option Nat := if o = 6 ∧ idx = 16 then some 3 else if o = 3 ∧ idx = 9 then some 4 else none
def zHnq (o idx len pc : Nat) (st : List Value) (w : zW) : Option zG := match st with
  | .int n :: r => match zan o idx with
    | some kd => if len = 3 ∧ ¬ n < 0 ∧ n.toNatClampNeg ≤ 67108864 then some (pc + 3, .ref w.2.1 :: r, (va_up w.1 w.2.1 (some (.inl (kd, n.toNatClampNeg, .inr (.inr (.inr (.inr (fun _ => none))))))), w.2.1 + 1, w.2.2 + n.toNatClampNeg)) else none
    | none => none
  | _ => none
def zHas (len pc : Nat) (st : List Value) (w : zW) : Option zG := match st with
  | .ref v :: .int i :: .ref a :: r => match w.1 a, w.1 v with
    | some (.inl (kd, N, .inr (.inr (.inr (.inr f))))), some (.inr (ci, _)) => if len = 1 ∧ ((kd = 3 ∧ (ci = 0 ∨ ci = 2)) ∨ (kd = 4 ∧ ci = 3)) ∧ zbd i N = true then some (pc + 1, r, (va_up w.1 a (some (.inl (kd, N, .inr (.inr (.inr (.inr (va_up f i.toNatClampNeg (some v)))))))), w.2)) else none
    | _, _ => none
  | _ => none
def zHin (o idx len pc : Nat) (st : List Value) (w : zW) : Option zG := match st with
  | .null :: r => if len = 3 then some (pc + 3, .int 0 :: r, w) else none
  | .ref a :: r => match w.1 a with
    | some (.inr (ci, _)) => if len = 3 ∧ o = 6 ∧ idx = 128 ∧ (ci = 0 ∨ ci = 2) then some (pc + 3, .int (if ci = 2 then 1 else 0) :: r, w) else none
    | _ => none
  | _ => none
def zHcc (o idx len pc : Nat) (st : List Value) (w : zW) : Option zG := match st with
  | .ref a :: r => match w.1 a with
    | some (.inr (ci, _)) => if len = 3 ∧ o = 6 ∧ idx = 128 ∧ ci = 2 then some (pc + 3, .ref a :: r, w) else none
    | _ => none
  | _ => none
/-- constants -/
def zLk : List (Nat × Nat × Int64) := [(4, 9, 2305843009213693951), (4, 11, 1152921504606846975), (4, 13, 2147483647), (4, 15, 2), (4, 17, 1073741823), (7, 94, 2), (7, 115, 2147483647), (7, 121, 2147483629), (7, 218, 4611685975477714963), (7, 227, -1)]
def zlk (o idx : Nat) : Option Int64 := (zLk.find? (fun e => e.1 == o && e.2.1 == idx)).map (fun e => e.2.2)
theorem zLk_ok : zLk.all (fun e => decide (Cond.constantLong (zOwn e.1) e.2.1 e.2.2 ∈ zT)) = true := by decide +kernel
def zIk : List (Nat × Nat × Int32) := [(9, 265, 1431655765), (9, 266, 858993459), (9, 267, 252645135)]
def zik (o idx : Nat) : Option Int32 := (zIk.find? (fun e => e.1 == o && e.2.1 == idx)).map (fun e => e.2.2)
theorem zIk_ok : zIk.all (fun e => decide (Cond.constant (zOwn e.1) e.2.1 e.2.2 ∈ zT)) = true := by decide +kernel
theorem zlk_inv {o idx : Nat} {v : Int64} (h : zlk o idx = some v) : Cond.constantLong (zOwn o) idx v ∈ zT := by
  unfold zlk at h
  cases hf : zLk.find? (fun e => e.1 == o && e.2.1 == idx) with
  | none => rw [hf] at h; cases h
  | some e =>
    rw [hf] at h
    simp only [Option.map_some, Option.some.injEq] at h
    have hp := List.find?_some hf
    simp only [Bool.and_eq_true, beq_iff_eq] at hp
    have h1 := List.all_eq_true.mp zLk_ok e (List.mem_of_find?_eq_some hf)
    rw [← hp.1, ← hp.2, ← h]
    exact of_decide_eq_true h1
theorem zik_inv {o idx : Nat} {v : Int32} (h : zik o idx = some v) : Cond.constant (zOwn o) idx v ∈ zT := by
  unfold zik at h
  cases hf : zIk.find? (fun e => e.1 == o && e.2.1 == idx) with
  | none => rw [hf] at h; cases h
  | some e =>
    rw [hf] at h
    simp only [Option.map_some, Option.some.injEq] at h
    have hp := List.find?_some hf
    simp only [Bool.and_eq_true, beq_iff_eq] at hp
    have h1 := List.all_eq_true.mp zIk_ok e (List.mem_of_find?_eq_some hf)
    rw [← hp.1, ← hp.2, ← h]
    exact of_decide_eq_true h1
/-- what the tables say beyond the words that go with every call -/
def zDecl : List MethodName := [⟨RX2, "prepare", "()V"⟩, ⟨RX2, "raises", "(III)Z"⟩, ⟨RX2, "link", "(I)V"⟩, ⟨RX2, "lacking", "()I"⟩]
def zK (Y : zY) (U : State) : Prop := va_K Y.1 vwCl (ztys Y) U ∧ Y.2 9 = Y.2 0 ∧ va_AO RX2 U ∧ va_AO RX5 U ∧ va_Nw (.castable RX0 RX2) U ∧ va_Nw (.castable RX3 RX2) U ∧ va_Nw (.castable RX3 RX3) U ∧ va_Nc RX0 RX3 U ∧ (∀ x ∈ zDecl, va_Nw (.declares x) U) ∧ va_Nw (.methodLinkNest RX6 11 yX1_init RX6) U
/-- a cell is made -/
theorem zw.new {Y : zY} {z0 : Nat} {s : State} {H H1 : Heap} {w : zW} {e : va_E} (hw : zw Y z0 s H w) (h0 : z0 ≤ H.size) (hat : va_at Y.1 vwCl (H.size, zc Y e) H1) (z : H1.size = H.size + 1) (oq : ∀ q : Nat, q < H.size → H1[q]? = H[q]?) (k : Nat) : zw Y z0 s H1 (va_up w.1 w.2.1 (some e), w.2.1 + 1, k) := by
  obtain ⟨hn, ws, hP, hD, hA⟩ := hw
  have hk : ∀ (k : Nat) (x : Nat × va_E), ws[k]? = some x → H1[x.1]? = H[x.1]? := fun k x hx => oq x.1 ((hP k x hx).lt)
  refine ⟨by rw [z, hn], ws ++ [(H.size, zc Y e)], (hP.kept hk).app (fun k x hx => ?_), hD.push hP rfl h0, ?_⟩
  · have hz : k < 1 := (List.getElem?_eq_some_iff.mp hx).1
    rw [show k = 0 by omega] at hx
    cases hx
    exact hat
  · intro b e' hb
    by_cases hba : b = w.2.1
    · subst hba
      simp only [va_up, if_true, Option.some.injEq] at hb
      subst hb
      refine Or.inl ⟨ws.length, ?_⟩
      rw [List.getElem?_append_right (Nat.le_refl _), Nat.sub_self, ← hn]
      rfl
    · simp only [va_up, if_neg hba] at hb
      rcases hA b _ hb with ⟨j, hj⟩ | ⟨L, xs, he, hlt, hX⟩
      · refine Or.inl ⟨j, ?_⟩
        rw [List.getElem?_append_left (List.getElem?_eq_some_iff.mp hj).1]
        exact hj
      · exact Or.inr ⟨L, xs, he, hlt, hX.kept (oq b (by omega))⟩
section ZHW
variable {p : Program} {l : Launch} {e : Env} {R : Room} {s : State} {m : MethodId} {args : Array Value} {below : List Frame} {meth : Method} {c : Code} {H : Heap} {locs : List Loc} {cells slots : Nat} {Q : State → Prop}
variable {cc : ByteArray} {pc len : Nat} {ls : Array Slot} {st st' : List Value} {pc' : Nat} {Y : zY} {z0 : Nat} {w w' : zW}
theorem zHput_ok {o idx : Nat} {ini : Bool} (hx : p.tables.exec = Jvm.exec) (hb : c.code = cc) (hts : ∀ w ∈ zT, w.before args s = true) (hown : s.vm.findClass (zOwn o) = some m.cls) (hini : ini = true → meth.name = "<init>") (hK : va_K Y.1 vwCl (ztys Y) s) (hz : zHput o ini idx len pc st w = some (pc', st', w')) (hd : decode cc pc = .ok (.putfield idx, len)) (hw : zw Y z0 s H w) (hS : va_S (fun q => z0 ≤ q) s.heap H locs) (kk : ∀ (H1 : Heap) (locs1 : List Loc), zw Y z0 s H1 w' → va_S (fun q => z0 ≤ q) s.heap H1 locs1 → w'.2 = w.2 → W p l e R s m args below meth c H1 locs1 cells slots Q (F0 m pc' ls st')) : W p l e R s m args below meth c H locs cells slots Q (F0 m pc ls st) := by
  unfold zHput at hz
  split at hz
  · rename_i v a r
    split at hz
    · rename_i ci fs k cs ha hf
      split at hz
      · rename_i hc
        obtain ⟨rfl, hc, hl, hv, hfi⟩ := hc
        simp only [Option.some.injEq, Prod.mk.injEq] at hz
        obtain ⟨rfl, rfl, rfl⟩ := hz
        obtain ⟨ref, C, T, N, h1, h2, h3, h4⟩ := zfl_inv hf hc
        obtain ⟨hci, hq0⟩ := ztab_ok h1
        have hty := ztyp_ok hci
        have hnm := znm_ok hci
        unfold zfin at hfi
        rw [← hq0] at hty hnm hfi
        dsimp only at hty hnm hfi
        obtain ⟨hn, hfit⟩ := zokv_ok hv
        obtain ⟨ws, q, hP, -, hq⟩ := hw.obj ha
        have hap := va_apart (own := zOwn o) hts (zlays_in h1) (ztyp ci) hty hnm hK h1
        obtain ⟨rr, g1, cell, q1, q2, q3, q4⟩ := hP q _ hq
        have hr : rr = (C, T, N) := Option.some.inj (g1.symm.trans h1)
        subst hr
        obtain ⟨hSl, hfc, kC, hkC, hkind⟩ := hK.1 ci _ h1
        obtain ⟨cf, kf, fi, f, hi, hsl⟩ := hSl k h2
        have hlay := hts _ (zlays_in h1 _ (u_in_lay h2))
        unfold u_lay at hlay
        have hst := (u_facts hfc hkC (u_lays hts (zlays_in h1) h2) hi).1
        have fin : ∀ H' : Heap, H'[a]? = some (cell.setSlot f.slot v) → H'.size = H.size → (∀ q, q ≠ a → H'[q]? = H[q]?) → W p l e R s m args below meth c H' (locs ++ [⟨a, f.slot⟩]) cells slots Q (F0 m (pc + 3) ls r) := by
          intro H' e1 e2 e3
          rw [hsl] at e1
          obtain ⟨hw1, h0⟩ := hw.put (e := .inr (ci, fs.set k v)) ha (fun y => by simp) (show va_at Y.1 vwCl (a, .inr (ci, fs.set k v)) H' from ⟨_, h1, t_OB.to (V := updV (vp_V fs) k v) ⟨_, e1, q2, q3, t_set q4 hap h2 v⟩ (fun j _ => vp_updV_set hl v j)⟩) e2 e3
          exact kk H' _ hw1 (hS.put e2 e3 h0) rfl
        by_cases hfin : (T k).2.2.2 = true
        · rw [hfin] at hfi
          simp only [Bool.not_true, Bool.false_or, Bool.and_eq_true, decide_eq_true_eq] at hfi
          rw [if_pos hfin] at hlay
          have hcf : m.cls = cf := by
            obtain ⟨_, _, c', _, _, _, -, -, hf', -, -, -, hown2, -⟩ := Cond.laysFinal_spec hlay
            have e1 : c' = cf := by have := hi.symm.trans hf'; simp at this; exact this.1.symm
            rw [hfi.2] at hown2
            rw [← e1]; exact Option.some.inj (hown.symm.trans hown2)
          have h6 := u_fits hfc hkC hkind (Or.inr hlay) hi (hty k h2) hn hfit
          exact W.putFinK hx hb hown (hts _ h3) (zsame hts h4 _ hi) hst hcf (hini hfi.1) (by rw [q2]; exact h6) q1 q3 (by rw [hsl]; exact k2_hasslot (q4 k h2)) rfl rfl hd fin
        · rw [if_neg hfin] at hlay
          have h6 := u_store hfc hkC hkind hlay hi (hty k h2) hn hfit
          exact W.putK hx hb (f := f) ⟨hown, hts _ h3, ⟨_, _, _, zsame hts h4 _ hi⟩, hst⟩ (by rw [q2]; exact h6) q1 q3 (by rw [hsl]; exact k2_hasslot (q4 k h2)) rfl rfl hd fin
      · cases hz
    · cases hz
  · cases hz
theorem zHnew_ok {o idx : Nat} (hx : p.tables.exec = Jvm.exec) (hb : c.code = cc) (hts : ∀ w ∈ zT, w.before args s = true) (hown : s.vm.findClass (zOwn o) = some m.cls) (hK : va_K Y.1 vwCl (ztys Y) s) (hz : zHnew o idx len pc st w = some (pc', st', w')) (hd : decode cc pc = .ok (.new idx, len)) (hw : zw Y z0 s H w) (h0 : z0 ≤ s.heap.size) (hS : va_S (fun q => z0 ≤ q) s.heap H locs) (hcells : cells + (w'.2.1 - w.2.1) ≤ R.cells) (hslots : slots + (w'.2.2 - w.2.2) ≤ R.slots) (kk : ∀ (H1 : Heap) (locs1 : List Loc), zw Y z0 s H1 w' → va_S (fun q => z0 ≤ q) s.heap H1 locs1 → W p l e R s m args below meth c H1 locs1 (cells + (w'.2.1 - w.2.1)) (slots + (w'.2.2 - w.2.2)) Q (F0 m pc' ls st')) : W p l e R s m args below meth c H locs cells slots Q (F0 m pc ls st) := by
  unfold zHnew at hz
  split at hz
  · rename_i ci hck
    split at hz
    · rename_i hl
      subst hl
      simp only [Option.some.injEq, Prod.mk.injEq] at hz
      obtain ⟨rfl, rfl, rfl⟩ := hz
      dsimp only at hcells hslots kk
      rw [Nat.add_sub_cancel_left] at hcells hslots kk
      rw [Nat.add_sub_cancel_left] at kk
      obtain ⟨hci, c1, c2, c3⟩ := zck_inv hck
      have hc := ztab_in hci
      have hKn := hK.1 ci _ hc
      refine W.newcK hx hb hown (hts _ c1) (hts _ c2) (hts _ c3) rfl hd hcells hslots hKn.2.1 rfl fun H1 kC hkC e1 z1 o1 => ?_
      have hw1 := hw.new (e := .inr (ci, zdf ci)) (Nat.le_trans h0 hS.1) (show va_at Y.1 vwCl (H.size, .inr (ci, zdf ci)) H1 from ⟨_, hc, (u_born (ztyp ci) hts (zlays_in hc) hKn hkC e1 (ztyp_ok hci)).to (zdf_ok hci)⟩) z1 o1 (w.2.2 + (ztab ci).2.2)
      have hS1 : va_S (fun q => z0 ≤ q) s.heap H1 locs := ⟨Nat.le_trans hS.1 (by omega), fun x h1 h2 => (o1 x (Nat.lt_of_lt_of_le h1 hS.1)).trans (hS.2.1 x h1 h2), hS.2.2⟩
      have hk := kk H1 locs hw1 hS1
      rw [← hw.1] at hk
      exact hk
    · cases hz
  · cases hz
theorem zRA {Y : zY} {k : Nat} {cA : ClassId} {ty : FieldType} (hK : va_K Y.1 vwCl (ztys Y) s) (ht : (ztys Y)[k]? = some (Y.2 k, ty)) (hp : ty = .int ∨ ty = .long ∨ ty = .boolean) (h : s.vm.findClass ("[" ++ ty.toString) = some cA) : cA = Y.2 k := by
  have h1 := (hK.2 k _ ht).2
  rcases hp with rfl | rfl | rfl <;> exact Option.some.inj (h.symm.trans h1)
theorem zarrc : Cond.arrayClass .int ∈ zT ∧ Cond.arrayClass .long ∈ zT ∧ Cond.arrayClass .boolean ∈ zT := by decide +kernel
theorem zHna_ok {t : ArrayType} (hx : p.tables.exec = Jvm.exec) (hb : c.code = cc) (hts : ∀ w ∈ zT, w.before args s = true) (hK : va_K Y.1 vwCl (ztys Y) s) (hz : zHna t len pc st w = some (pc', st', w')) (hd : decode cc pc = .ok (.newarray t, len)) (hw : zw Y z0 s H w) (h0 : z0 ≤ s.heap.size) (hS : va_S (fun q => z0 ≤ q) s.heap H locs) (hcells : cells + (w'.2.1 - w.2.1) ≤ R.cells) (hslots : slots + (w'.2.2 - w.2.2) ≤ R.slots) (kk : ∀ (H1 : Heap) (locs1 : List Loc), zw Y z0 s H1 w' → va_S (fun q => z0 ≤ q) s.heap H1 locs1 → W p l e R s m args below meth c H1 locs1 (cells + (w'.2.1 - w.2.1)) (slots + (w'.2.2 - w.2.2)) Q (F0 m pc' ls st')) : W p l e R s m args below meth c H locs cells slots Q (F0 m pc ls st) := by
  unfold zHna at hz
  split at hz
  · rename_i n r
    split at hz
    · rename_i hl
      obtain ⟨rfl, hn, hN⟩ := hl
      have hS1 : ∀ H1 : Heap, H1.size = H.size + 1 → (∀ q, q < H.size → H1[q]? = H[q]?) → va_S (fun q => z0 ≤ q) s.heap H1 locs := fun H1 z1 o1 => ⟨Nat.le_trans hS.1 (by omega), fun x h1 h2 => (o1 x (Nat.lt_of_lt_of_le h1 hS.1)).trans (hS.2.1 x h1 h2), hS.2.2⟩
      split at hz
      · simp only [Option.some.injEq, Prod.mk.injEq] at hz
        obtain ⟨rfl, rfl, rfl⟩ := hz
        dsimp only at hcells hslots kk
        rw [Nat.add_sub_cancel_left] at hcells hslots kk
        rw [Nat.add_sub_cancel_left] at kk
        refine va_newaK (atype := .int) hx hb (hts _ zarrc.1) rfl hd rfl hn rfl (by show _ * 4 ≤ _; omega) hcells hslots rfl fun H1 cA e1 z1 o1 hAr hNm => ?_
        obtain rfl := zRA (k := 0) hK rfl (Or.inl rfl) hNm
        have hk := kk H1 locs (hw.new (e := .inl (0, n.toNatClampNeg, .inl (fun _ => 0))) (Nat.le_trans h0 hS.1) (by show H1[H.size]? = some (vp_cell _ _); rw [e1]; rfl) z1 o1 _) (hS1 H1 z1 o1)
        rw [← hw.1] at hk
        exact hk
      · simp only [Option.some.injEq, Prod.mk.injEq] at hz
        obtain ⟨rfl, rfl, rfl⟩ := hz
        dsimp only at hcells hslots kk
        rw [Nat.add_sub_cancel_left] at hcells hslots kk
        rw [Nat.add_sub_cancel_left] at kk
        refine va_newaK (atype := .long) hx hb (hts _ zarrc.2.1) rfl hd rfl hn rfl (by show _ * 8 ≤ _; omega) hcells hslots rfl fun H1 cA e1 z1 o1 hAr hNm => ?_
        obtain rfl := zRA (k := 1) hK rfl (Or.inr (Or.inl rfl)) hNm
        have hk := kk H1 locs (hw.new (e := .inl (1, n.toNatClampNeg, .inr (.inl (fun _ => 0)))) (Nat.le_trans h0 hS.1) (by show H1[H.size]? = some (vp_cell _ _); rw [e1]; rfl) z1 o1 _) (hS1 H1 z1 o1)
        rw [← hw.1] at hk
        exact hk
      · simp only [Option.some.injEq, Prod.mk.injEq] at hz
        obtain ⟨rfl, rfl, rfl⟩ := hz
        dsimp only at hcells hslots kk
        rw [Nat.add_sub_cancel_left] at hcells hslots kk
        rw [Nat.add_sub_cancel_left] at kk
        refine va_newaK (atype := .boolean) hx hb (hts _ zarrc.2.2) rfl hd rfl hn rfl (by show _ * 1 ≤ _; omega) hcells hslots rfl fun H1 cA e1 z1 o1 hAr hNm => ?_
        obtain rfl := zRA (k := 2) hK rfl (Or.inr (Or.inr rfl)) hNm
        have hk := kk H1 locs (hw.new (e := .inl (2, n.toNatClampNeg, .inl (fun _ => 0))) (Nat.le_trans h0 hS.1) (by show H1[H.size]? = some (vp_cell _ _); rw [e1]; rfl) z1 o1 _) (hS1 H1 z1 o1)
        rw [← hw.1] at hk
        exact hk
      · cases hz
    · cases hz
  · cases hz
end ZHW
