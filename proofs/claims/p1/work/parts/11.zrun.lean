/-! THE SMALL MACHINE: a run of a method. f: steps, d: frames that may still come -/
abbrev zMe : Type := MethodName × ByteArray × Nat × Option FieldType × Nat × Bool
def zH (o : Nat) (ini : Bool) (d : Nat) (i : Instr) (len pc : Nat) (st : List Value) (w : zW) : Option zG := match i with
  | .getfield idx => zHget o idx len pc st w
  | .putfield idx => zHput o ini idx len pc st w
  | .iaload => zHia len pc st w
  | .baload => zHba len pc st w
  | .laload => zHla len pc st w
  | .aaload => zHaa len pc st w
  | .arraylength => zHal len pc st w
  | .iastore => zHis len pc st w
  | .bastore => zHbs len pc st w
  | .lastore => zHls len pc st w
  | .aastore => zHas len pc st w
  | .new idx => zHnew o idx len pc st w
  | .newarray t => zHna t len pc st w
  | .anewarray idx => zHnq o idx len pc st w
  | .instanceof idx => zHin o idx len pc st w
  | .checkcast idx => zHcc o idx len pc st w
  | .ldc2_w idx => zHl2 o idx len pc st w
  | .ldc_w idx => zHlw o idx len pc st w
  | .invokespecial idx => zHob o d idx len pc st w
  | .invokestatic idx => match zHmm o d idx len pc st w with
    | some g => some g
    | none => zHcp o d idx len pc st w
  | _ => none
/-- a method's end -/
def zend (ret : Option FieldType) (i : Instr) (len : Nat) (st : List Value) : Option (Option Value) := match i with
  | .ireturn => match ret, st with
    | some .int, [.int v] => if len = 1 then some (some (.int v)) else none
    | some .boolean, [.int v] => if len = 1 ∧ (v = 0 ∨ v = 1) then some (some (.int v)) else none
    | _, _ => none
  | .lreturn => match ret, st with
    | some .long, [.long v] => if len = 1 then some (some (.long v)) else none
    | _, _ => none
  | .areturn => match ret, st with
    | some (.object _), [.ref a] => if len = 1 then some (some (.ref a)) else none
    | some (.object _), [.null] => if len = 1 then some (some .null) else none
    | _, _ => none
  | .return_ => match ret, st with
    | none, [] => if len = 1 then some none else none
    | _, _ => none
  | _ => none
/-- a call: the method, its arguments, what stays on the stack -/
def zcall (o : Nat) (i : Instr) (len : Nat) (st : List Value) (w : zW) : Option (Nat × List Value × List Value) := match i with
  | .invokespecial idx => match zcl o idx with
    | some (kd, _, mj, n) => if len = 3 ∧ (kd = 0 ∨ kd = 1) ∧ zsum (st.drop (n + 1)) ≤ 8 then (match st.drop n with
      | .ref b :: r => some (mj, .ref b :: (st.take n).reverse, r)
      | _ => none) else none
    | none => none
  | .invokestatic idx => match zcl o idx with
    | some (kd, _, mj, n) => if len = 3 ∧ kd = 2 ∧ n ≤ st.length ∧ zsum (st.drop n) ≤ 8 then some (mj, (st.take n).reverse, st.drop n) else none
    | none => none
  | .invokevirtual idx => match zcl o idx with
    | some (_, _, _, n) => if len = 3 ∧ zsum (st.drop (n + 1)) ≤ 8 then (match st.drop n with
      | .ref b :: r => match w.1 b with
        | some (.inr (ci, _)) => match zclv o idx ci with
          | some (kd, _, mj, n') => if n' = n ∧ (kd = 3 ∨ kd = 4 ∨ kd = 5) then some (mj, .ref b :: (st.take n).reverse, r) else none
          | none => none
        | _ => none
      | _ => none) else none
    | none => none
  | _ => none
def zin (mL : Nat) (as : List Value) : zL := zen as ++ List.replicate (mL - (zen as).length) none
def zrun : Nat → Nat → Nat → Nat → zL → List Value → zW → Option (Option Value × zW)
  | 0, _, _, _, _, _, _ => none
  | f + 1, d, mi, pc, L, st, w => match zMt[mi]? with
    | none => none
    | some (_, b, mL, ret, o, ini) => match decode b pc with
      | .error _ => none
      | .ok (i, len) => match zend ret i len st with
        | some r => some (r, w)
        | none => match zA mL i len pc L st with
          | some (pc', L', st') => zrun f d mi pc' L' st' w
          | none => match zH o ini d i len pc st w with
            | some (pc', st', w') => zrun f d mi pc' L st' w'
            | none => match zcall o i len st w with
              | none => none
              | some (mj, as, r) => match d with
                | 0 => none
                | d' + 1 => match zMt[mj]? with
                  | none => none
                  | some (_, _, mL', _, _, _) => if (zen as).length ≤ mL' then (match zrun f d' mj 0 (zin mL' as) [] w with
                    | none => none
                    | some (v, w1) => zrun f (d' + 1) mi (pc + 3) L (v.toList ++ r) w1) else none
def zMtB (M : zMe) (q : Nat × Nat) : Bool := plainName M.1.cls && zat q.1 (Cond.code M.1 M.2.1 M.2.2.1 M.2.2.2.1) && decide (M.1.cls = zOwn M.2.2.2.2.1) && (!M.2.2.2.2.2 || decide (M.1.name = "<init>")) && decide (M.2.2.1 ≤ 30) && zat q.2 (Cond.initialized M.1.cls) && decide (M.1.cls ≠ "java/lang/invoke/MethodHandle") && decide (M.1.cls ≠ "java/lang/invoke/VarHandle")
def zMtBs (Ms : List zMe) (qs : List (Nat × Nat)) : Bool := decide (Ms.length = qs.length) && (Ms.zip qs).all (fun q => zMtB q.1 q.2)
def zCallB (e : Nat × Nat × Nat × Nat × Nat × Nat) (v : List Nat) : Bool := decide (5 < e.2.2.1) || (match zMt[e.2.2.2.2.1]? with
  | none => false
  | some (y, _, _, ret, _, _) => decide (e.2.2.2.2.1 + 1 < zMt.length) && decide ((parseMethodDescriptor y.desc).map (fun d => d.parameters.length) = some e.2.2.2.2.2) && (match e.2.2.1, v with
    | 0, [a, b] => decide (ret = none) && zat a (Cond.methodLink (zOwn e.1) e.2.1 y) && zat b (Cond.instanceMethod y) && decide (y.name = "<init>")
    | 1, [b] => decide (ret = none) && decide (e.1 = 6) && decide (e.2.1 = 11) && decide (y = yX1_init) && zat b (Cond.instanceMethod y) && decide (y.name = "<init>")
    | 2, [a, b] => zat a (Cond.methodLink (zOwn e.1) e.2.1 y) && zat b (Cond.static y)
    | 3, [a, b, q] => zat a (Cond.methodLink (zOwn e.1) e.2.1 y) && zat b (Cond.instanceMethod y) && zat q (Cond.selects (ztab e.2.2.2.1).1 y y) && decide (y.cls = (ztab e.2.2.2.1).1)
    | 4, [xc, b, a, g, q] => decide (y.cls = RX2) && zat b (Cond.instanceMethod y) && zat a (Cond.methodLink (zOwn e.1) e.2.1 ⟨zOwn xc, y.name, y.desc⟩) && zat g (Cond.sameMethod (zOwn xc) RX2 y.name y.desc) && zat q (Cond.selects (ztab e.2.2.2.1).1 ⟨zOwn xc, y.name, y.desc⟩ y)
    | 5, [b, a, g, q] => decide ((⟨RX2, y.name, y.desc⟩ : MethodName) ∈ zDecl) && zat b (Cond.instanceMethod y) && zat a (Cond.methodLink (zOwn e.1) e.2.1 ⟨RX2, y.name, y.desc⟩) && zat g (Cond.sameMethod RX2 RX2 y.name y.desc) && zat q (Cond.selects (ztab e.2.2.2.1).1 ⟨RX2, y.name, y.desc⟩ y)
    | _, _ => false))
def zCallBs (es : List (Nat × Nat × Nat × Nat × Nat × Nat)) (vs : List (List Nat)) : Bool := decide (es.length = vs.length) && (es.zip vs).all (fun q => zCallB q.1 q.2)
theorem zzip {α β : Type} {p : α → β → Bool} {l : List α} {l' : List β} (hl : l.length = l'.length) (h : (l.zip l').all (fun q => p q.1 q.2) = true) : ∀ a ∈ l, ∃ b, p a b = true := by
  intro a ha
  obtain ⟨i, hi, rfl⟩ := List.mem_iff_getElem.mp ha
  have h1 := List.all_eq_true.mp h (l[i], l'[i]'(by omega)) (by
    refine List.mem_iff_getElem.mpr ⟨i, by simp; omega, by simp⟩)
  exact ⟨_, h1⟩
set_option maxRecDepth 100000 in
theorem zMb_0 : zMtBs zMt_0 zMx_0 = true := by decide +kernel
set_option maxRecDepth 100000 in
theorem zMb_1 : zMtBs zMt_1 zMx_1 = true := by decide +kernel
set_option maxRecDepth 100000 in
theorem zMb_2 : zMtBs zMt_2 zMx_2 = true := by decide +kernel
set_option maxRecDepth 100000 in
theorem zMb_3 : zMtBs zMt_3 zMx_3 = true := by decide +kernel
set_option maxRecDepth 100000 in
theorem zMb_4 : zMtBs zMt_4 zMx_4 = true := by decide +kernel
set_option maxRecDepth 100000 in
theorem zMb_5 : zMtBs zMt_5 zMx_5 = true := by decide +kernel
set_option maxRecDepth 100000 in
theorem zMb_6 : zMtBs zMt_6 zMx_6 = true := by decide +kernel
set_option maxRecDepth 100000 in
theorem zMb_7 : zMtBs zMt_7 zMx_7 = true := by decide +kernel
set_option maxRecDepth 100000 in
theorem zMb_8 : zMtBs zMt_8 zMx_8 = true := by decide +kernel
set_option maxRecDepth 100000 in
theorem zMb_9 : zMtBs zMt_9 zMx_9 = true := by decide +kernel
set_option maxRecDepth 100000 in
theorem zMb_10 : zMtBs zMt_10 zMx_10 = true := by decide +kernel
set_option maxRecDepth 100000 in
theorem zMb_11 : zMtBs zMt_11 zMx_11 = true := by decide +kernel
set_option maxRecDepth 100000 in
theorem zMb_12 : zMtBs zMt_12 zMx_12 = true := by decide +kernel
set_option maxRecDepth 100000 in
theorem zMb_13 : zMtBs zMt_13 zMx_13 = true := by decide +kernel
set_option maxRecDepth 100000 in
theorem zMb_14 : zMtBs zMt_14 zMx_14 = true := by decide +kernel
set_option maxRecDepth 100000 in
theorem zCb_0 : zCallBs zCl_0 zCx_0 = true := by decide +kernel
set_option maxRecDepth 100000 in
theorem zCb_1 : zCallBs zCl_1 zCx_1 = true := by decide +kernel
set_option maxRecDepth 100000 in
theorem zCb_2 : zCallBs zCl_2 zCx_2 = true := by decide +kernel
set_option maxRecDepth 100000 in
theorem zCb_3 : zCallBs zCl_3 zCx_3 = true := by decide +kernel
