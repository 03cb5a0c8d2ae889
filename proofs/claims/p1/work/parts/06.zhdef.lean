/-- 'selects' of a private method of an abstract class, on an object of a class below it -/
theorem z_sel {C : String} {y : MethodName} {n : Nat} {s : State} {args : Array Value} (hins : (Cond.instantiable C n).before args s = true) (hpriv : (Cond.privateMethod y).before args s = true) (hinst : (Cond.instanceMethod y).before args s = true) (hsame : (Cond.sameMethod y.cls y.cls y.name y.desc).before args s = true) : (Cond.selects C y y).before args s = true := by
  obtain ⟨c, k, hc, hk, -, -, -, -⟩ := Cond.instantiable_spec hins
  obtain ⟨mk, methM, hnamed, hmethM, -, -⟩ := Cond.instanceMethod_spec hinst
  obtain ⟨cn, ck, r1, hcn, hck, hni, hf, hn1⟩ := Cond.sameMethod_found hsame
  obtain rfl : mk = r1 := Option.some.inj (hnamed.symm.trans hn1)
  have hcls : mk.cls = cn := Option.some.inj ((findClass_of_methodNamed hnamed).symm.trans hcn)
  have hsel : selectMethod {} s.vm c mk = .method mk := selectMethod_private hmethM (Cond.privateMethod_at hpriv mk methM hnamed hmethM)
  simp only [Cond.before, Cond.holds, Cond.value, hc, hf, hnamed, hsel, hcls, hck]
  simp; exact hni
def lz_sel : List Cond := zSel.map fun q => Cond.selects (zOwn q.1) q.2 q.2
def lz_tbl : List Cond := lz_sel ++ lw_tbl
def zSelB (q : Nat × MethodName) : Bool := (decide (Cond.instantiable (zOwn q.1) 8 ∈ tables_1) || decide (Cond.instantiable (zOwn q.1) 11 ∈ tables_1)) && decide (Cond.privateMethod q.2 ∈ tables_1) && decide (Cond.instanceMethod q.2 ∈ tables_1) && decide (Cond.sameMethod q.2.cls q.2.cls q.2.name q.2.desc ∈ tables_1)
theorem zSel_ok : zSel.all zSelB = true := by decide +kernel
theorem lz_hts {args : Array Value} {s : State} (hts : ∀ w ∈ lw_tbl, w.before args s = true) : ∀ w ∈ lz_tbl, w.before args s = true := by
  intro w hw
  rcases List.mem_append.mp hw with h | h
  · obtain ⟨q, hq, rfl⟩ := List.mem_map.mp h
    have h1 := List.all_eq_true.mp zSel_ok q hq
    unfold zSelB at h1
    simp only [Bool.and_eq_true, Bool.or_eq_true, decide_eq_true_eq] at h1
    obtain ⟨⟨⟨g1, g2⟩, g3⟩, g4⟩ := h1
    have t : ∀ {w : Cond}, w ∈ tables_1 → w.before args s = true := fun h => hts _ (List.mem_append_right _ h)
    rcases g1 with g1 | g1
    · exact z_sel (t g1) (t g2) (t g3) (t g4)
    · exact z_sel (t g1) (t g2) (t g3) (t g4)
  · exact hts w h
/-- the words that go with every call -/
def zT : List Cond := lz_tbl.filter goodWord
theorem zT_in {w : Cond} (h : w ∈ zT) : w ∈ lz_tbl := (List.mem_filter.mp h).1
theorem zT_good {w : Cond} (h : w ∈ zT) : goodWord w = true := (List.mem_filter.mp h).2
/-- a word at its place -/
def zat (k : Nat) (w : Cond) : Bool := match lz_tbl[k]? with
  | some u => decide (u = w) && goodWord w
  | none => false
theorem zat_in {k : Nat} {w : Cond} (h : zat k w = true) : w ∈ zT := by
  unfold zat at h
  split at h
  · rename_i u hu
    simp only [Bool.and_eq_true, decide_eq_true_eq] at h
    obtain ⟨rfl, h2⟩ := h
    exact List.mem_filter.mpr ⟨List.mem_of_getElem? hu, h2⟩
  · cases h
/-! THE SMALL MACHINE, its heap: contents by address (an array by its kind: 0 ints, 1 longs, 2 booleans, 3 Matroids, 4 Sheets, 9 the script; an object by its class's place in vwCl), the next address, slots so far -/
abbrev zW : Type := (Nat → Option va_E) × Nat × Nat
abbrev zY : Type := va_G × (Nat → ClassId)
def ztys (Y : zY) : List (ClassId × FieldType) := [(Y.2 0, .int), (Y.2 1, .long), (Y.2 2, .boolean), (Y.2 3, .object RX2), (Y.2 4, .object RX5)]
def zc (Y : zY) (e : va_E) : va_E := match e with
  | .inl (k, x) => .inl (Y.2 k, x)
  | .inr o => .inr o
def zw (Y : zY) (z0 : Nat) (U : State) (H : Heap) (w : zW) : Prop := H.size = w.2.1 ∧ ∃ ws : va_W, va_P Y.1 vwCl ws H ∧ va_D (fun q => z0 ≤ q) ws ∧ ∀ (a : Nat) (e : va_E), w.1 a = some e → (∃ k : Nat, ws[k]? = some (a, zc Y e)) ∨ ∃ (L : Nat) (xs : Nat → Int32), e = .inl (9, L, .inl xs) ∧ a < z0 ∧ va_X a L xs U H
/-- fields and calls by number -/
def zfl (o idx : Nat) : Option (Nat × List Nat) := (zFl.find? (fun e => e.1 == o && e.2.1 == idx)).map (fun e => e.2.2.2)
def zFlB (e : Nat × Nat × String × Nat × List Nat) : Bool := e.2.2.2.2.all (fun ci => match vwCl[ci]? with
  | some (_, T, N) => decide (e.2.2.2.1 < N) && decide (Cond.fieldLink (zOwn e.1) e.2.1 e.2.2.1 (T e.2.2.2.1).2.1 (T e.2.2.2.1).2.2.1 ∈ zT) && (decide ((T e.2.2.2.1).1 = e.2.2.1) || decide (Cond.sameField e.2.2.1 (T e.2.2.2.1).1 (T e.2.2.2.1).2.1 (T e.2.2.2.1).2.2.1 ∈ zT))
  | none => false)
theorem zFl_ok : zFl.all zFlB = true := by decide +kernel
def zlays (ci : Nat) : Bool := match vwCl[ci]? with
  | some (C, T, N) => (u_ws C T N).all (fun w => decide (w ∈ zT))
  | none => true
theorem zlays_ok : (List.range 6).all zlays = true := by decide +kernel
theorem zlays_in {ci : Nat} {C : String} {T : u_T} {N : Nat} (h : vwCl[ci]? = some (C, T, N)) : ∀ w ∈ u_ws C T N, w ∈ zT := by
  have hlt : ci < 6 := (List.getElem?_eq_some_iff.mp h).1
  have h1 := List.all_eq_true.mp zlays_ok ci (List.mem_range.mpr hlt)
  unfold zlays at h1
  rw [h] at h1
  intro w hw
  have h2 := List.all_eq_true.mp h1 w hw
  exact of_decide_eq_true h2
theorem zfl_inv {o idx k : Nat} {cs : List Nat} (h : zfl o idx = some (k, cs)) {ci : Nat} (hc : ci ∈ cs) : ∃ (ref C : String) (T : u_T) (N : Nat), vwCl[ci]? = some (C, T, N) ∧ k < N ∧ Cond.fieldLink (zOwn o) idx ref (T k).2.1 (T k).2.2.1 ∈ zT ∧ ((T k).1 = ref ∨ Cond.sameField ref (T k).1 (T k).2.1 (T k).2.2.1 ∈ zT) := by
  unfold zfl at h
  cases hf : zFl.find? (fun e => e.1 == o && e.2.1 == idx) with
  | none => rw [hf] at h; cases h
  | some e =>
    rw [hf] at h
    simp only [Option.map_some, Option.some.injEq] at h
    have hm := List.mem_of_find?_eq_some hf
    have hp := List.find?_some hf
    simp only [Bool.and_eq_true, beq_iff_eq] at hp
    have h1 := List.all_eq_true.mp zFl_ok e hm
    obtain ⟨o', i', ref, k', cs'⟩ := e
    dsimp only at h hp h1
    obtain ⟨rfl, rfl⟩ := hp
    cases h
    unfold zFlB at h1
    have h2 := List.all_eq_true.mp h1 ci hc
    cases hv : vwCl[ci]? with
    | none => rw [hv] at h2; cases h2
    | some q =>
      obtain ⟨C, T, N⟩ := q
      rw [hv] at h2
      simp only [Bool.and_eq_true, Bool.or_eq_true, decide_eq_true_eq] at h2
      exact ⟨ref, C, T, N, rfl, h2.1.1, h2.1.2, h2.2⟩
theorem zsame {args : Array Value} {s : State} {ref : String} {T : u_T} {k : Nat} (hts : ∀ w ∈ zT, w.before args s = true) (h : (T k).1 = ref ∨ Cond.sameField ref (T k).1 (T k).2.1 (T k).2.2.1 ∈ zT) : ∀ x, s.fieldFound? (T k).1 (T k).2.1 (T k).2.2.1 = some x → s.fieldFound? ref (T k).2.1 (T k).2.2.1 = some x := by
  intro x hx
  rcases h with h | h
  · rw [← h]; exact hx
  · exact u_same (hts _ h) x hx
