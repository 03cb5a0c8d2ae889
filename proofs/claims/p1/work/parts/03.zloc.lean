/-! THE SMALL MACHINE, its locals: a row of values by their places, none where nothing is known -/
abbrev zL : Type := List (Option Value)
def zget (L : zL) (i : Nat) : Option Value := (L[i]?).join
def zcut (L : zL) (i : Nat) : zL := match i with
  | 0 => L
  | j + 1 => match zget L j with
    | some v => if v.category = 2 then L.set j none else L
    | none => L
def zst1 (L : zL) (i : Nat) (v : Value) : zL := (zcut L i).set i (some v)
def zst2 (L : zL) (i : Nat) (v : Value) : zL := ((zcut L i).set i (some v)).set (i + 1) none
def zas : Nat → zL → List (Nat × Value)
  | _, [] => []
  | k, none :: L => zas (k + 1) L
  | k, some v :: L => (k, v) :: zas (k + 1) L
theorem zas_mem : ∀ (L : zL) (k i : Nat) (v : Value), (i, v) ∈ zas k L ↔ k ≤ i ∧ zget L (i - k) = some v
  | [], k, i, v => by simp [zas, zget]
  | none :: L, k, i, v => by
    rw [zas, zas_mem L (k + 1) i v]
    constructor
    · rintro ⟨h1, h2⟩
      refine ⟨by omega, ?_⟩
      rw [show i - k = (i - (k + 1)) + 1 by omega]
      simpa [zget] using h2
    · rintro ⟨h1, h2⟩
      by_cases hk : i = k
      · subst hk
        simp [zget] at h2
      · refine ⟨by omega, ?_⟩
        rw [show i - k = (i - (k + 1)) + 1 by omega] at h2
        simpa [zget] using h2
  | some u :: L, k, i, v => by
    rw [zas, List.mem_cons, zas_mem L (k + 1) i v]
    constructor
    · rintro (h | ⟨h1, h2⟩)
      · obtain ⟨rfl, rfl⟩ := Prod.mk.inj h
        simp [zget]
      · refine ⟨by omega, ?_⟩
        rw [show i - k = (i - (k + 1)) + 1 by omega]
        simpa [zget] using h2
    · rintro ⟨h1, h2⟩
      by_cases hk : i = k
      · subst hk
        simp [zget] at h2
        exact Or.inl (by rw [h2])
      · right
        refine ⟨by omega, ?_⟩
        rw [show i - k = (i - (k + 1)) + 1 by omega] at h2
        simpa [zget] using h2
theorem zas_mem0 {L : zL} {i : Nat} {v : Value} : (i, v) ∈ zas 0 L ↔ zget L i = some v := by
  rw [zas_mem]
  simp
def zR (ls : Array Slot) (nL : Nat) (L : zL) : Prop := lv_has ls nL (zas 0 L)
theorem zR.get {ls : Array Slot} {nL : Nat} {L : zL} (h : zR ls nL L) {i : Nat} {v : Value} (hv : zget L i = some v) : ls[i]? = some (.val v) := h.2.2 (i, v) (zas_mem0.mpr hv)
theorem lv_more {ls : Array Slot} {nL : Nat} {l l' : List (Nat × Value)} (h : lv_has ls nL l) (hl : ∀ q ∈ l', q ∈ l) : lv_has ls nL l' := ⟨h.1, h.2.1, fun q hq => h.2.2 q (hl q hq)⟩
theorem zget_set_self {L : zL} {i : Nat} {x : Option Value} {v : Value} (h : zget (L.set i x) i = some v) : x = some v := by
  unfold zget at h
  rw [List.getElem?_set] at h
  simp at h
  split at h
  · simpa using h
  · simp at h
theorem zget_set_ne {L : zL} {i j : Nat} {x : Option Value} (hj : j ≠ i) : zget (L.set i x) j = zget L j := by
  unfold zget
  rw [List.getElem?_set, if_neg (fun e => hj e.symm)]
theorem zget_cut {L : zL} {i j : Nat} {v : Value} (h : zget (zcut L i) j = some v) : zget L j = some v ∧ (j + 1 = i → v.category ≠ 2) := by
  cases i with
  | zero => exact ⟨h, fun e => by omega⟩
  | succ k =>
    simp only [zcut] at h
    cases hk : zget L k with
    | none =>
      rw [hk] at h
      refine ⟨h, fun e => ?_⟩
      obtain rfl : j = k := by omega
      rw [hk] at h
      cases h
    | some u =>
      rw [hk] at h
      by_cases hc : u.category = 2
      · simp only [hc, if_true] at h
        by_cases hj : j = k
        · subst hj
          have := zget_set_self h
          cases this
        · rw [zget_set_ne hj] at h
          exact ⟨h, fun e => by omega⟩
      · simp only [hc, if_false] at h
        refine ⟨h, fun e => ?_⟩
        obtain rfl : j = k := by omega
        rw [hk] at h
        cases h
        exact hc
theorem zas_st1 {L : zL} {i : Nat} {v : Value} : ∀ q ∈ zas 0 (zst1 L i v), q ∈ (i, v) :: (zas 0 L).filter (fun q => !(q.1 == i) && !(q.1 + 1 == i && q.2.category == 2)) := by
  rintro ⟨j, u⟩ hq
  rw [zas_mem0] at hq
  unfold zst1 at hq
  by_cases hj : j = i
  · subst hj
    have := zget_set_self hq
    cases this
    exact List.mem_cons_self
  · rw [zget_set_ne hj] at hq
    obtain ⟨h1, h2⟩ := zget_cut hq
    refine List.mem_cons_of_mem _ (List.mem_filter.mpr ⟨zas_mem0.mpr h1, ?_⟩)
    simp only [Bool.and_eq_true, Bool.not_eq_true', beq_eq_false_iff_ne, Bool.and_eq_false_imp, beq_iff_eq]
    exact ⟨hj, fun e => h2 e⟩
theorem zas_st2 {L : zL} {i : Nat} {v : Value} : ∀ q ∈ zas 0 (zst2 L i v), q ∈ (i, v) :: (zas 0 L).filter (fun q => !(q.1 == i) && (!(q.1 == i + 1) && !(q.1 + 1 == i && q.2.category == 2))) := by
  rintro ⟨j, u⟩ hq
  rw [zas_mem0] at hq
  unfold zst2 at hq
  by_cases hk : j = i + 1
  · subst hk
    have := zget_set_self hq
    cases this
  rw [zget_set_ne hk] at hq
  by_cases hj : j = i
  · subst hj
    have := zget_set_self hq
    cases this
    exact List.mem_cons_self
  · rw [zget_set_ne hj] at hq
    obtain ⟨h1, h2⟩ := zget_cut hq
    refine List.mem_cons_of_mem _ (List.mem_filter.mpr ⟨zas_mem0.mpr h1, ?_⟩)
    simp only [Bool.and_eq_true, Bool.not_eq_true', beq_eq_false_iff_ne, Bool.and_eq_false_imp, beq_iff_eq]
    exact ⟨hj, hk, fun e => h2 e⟩
theorem zR.st1 {ls : Array Slot} {nL : Nat} {L : zL} {i : Nat} {v : Value} (h : lv_has ls nL ((i, v) :: (zas 0 L).filter (fun q => !(q.1 == i) && !(q.1 + 1 == i && q.2.category == 2)))) : zR ls nL (zst1 L i v) := lv_more h zas_st1
theorem zR.st2 {ls : Array Slot} {nL : Nat} {L : zL} {i : Nat} {v : Value} (h : lv_has ls nL ((i, v) :: (zas 0 L).filter (fun q => !(q.1 == i) && (!(q.1 == i + 1) && !(q.1 + 1 == i && q.2.category == 2))))) : zR ls nL (zst2 L i v) := lv_more h zas_st2
/-- fewer known locals -/
theorem zR.less {ls : Array Slot} {nL : Nat} {L L' : zL} (h : zR ls nL L) (hl : ∀ i v, zget L' i = some v → zget L i = some v) : zR ls nL L' := lv_more h (fun q hq => by
  obtain ⟨j, u⟩ := q
  exact zas_mem0.mpr (hl j u (zas_mem0.mp hq)))
/-- the locals at a method's entry -/
def zen : List Value → zL
  | [] => []
  | v :: vs => if v.category = 2 then some v :: none :: zen vs else some v :: zen vs
