/-! arraycopy of ints and of longs -/
theorem znn (z : Int32) (hz : ¬ z < 0) : z.toInt = (z.toNatClampNeg : Int) := by
  have hz0 : (0 : Int) ≤ z.toInt := by
    have := Int32.not_lt.mp hz
    simpa using Int32.le_iff_toInt_le.mp this
  show z.toInt = ((z.toInt.toNat : Nat) : Int)
  omega
section ZCP
variable {p : Program} {l : Launch} {e : Env} {R : Room} {s : State} {m : MethodId} {args : Array Value} {below : List Frame} {meth : Method} {c : Code} {H : Heap} {locs : List Loc} {cells slots : Nat} {Q : State → Prop}
variable {cc : ByteArray} {pc len : Nat} {ls : Array Slot} {st st' : List Value} {pc' : Nat} {Y : zY} {z0 : Nat} {w w' : zW}
theorem zcp_i {own : String} {index a0 a n0 n1 : Nat} {f g : Nat → Int32} {sp dp n : Int32} {rest : List Value} (hexec : p.tables.exec = Jvm.exec) (hb : c.code = cc) (hml : c.maxLocals = ls.size) (hown : s.vm.findClass own = some m.cls) (hlink : (Cond.methodLink own index arraycopyName).before args s = true) (hnat : (Cond.native arraycopyName).before args s = true) (hstat : (Cond.static arraycopyName).before args s = true) (hini : (Cond.initialized "java/lang/System").before args s = true)
    (hK : va_K Y.1 vwCl (ztys Y) s) (hw : zw Y z0 s H w) (hS : va_S (fun q => z0 ≤ q) s.heap H locs) (ha0 : w.1 a0 = some (.inl (0, n0, .inl f))) (ha1 : w.1 a = some (.inl (0, n1, .inl g))) (h1 : ¬ sp < 0) (h2 : ¬ dp < 0) (h3 : ¬ n < 0) (h4 : sp.toNatClampNeg + n.toNatClampNeg ≤ n0) (h5 : dp.toNatClampNeg + n.toNatClampNeg ≤ n1)
    (hframes : 1 ≤ R.frames) (hlocals : (rest.map fun v => v.category).sum + (nativeFrameWords "java/lang/System" "arraycopy" 5 + 11) ≤ R.locals) (hdg : decode cc pc = .ok (.invokestatic index, 3))
    (kk : ∀ (H1 : Heap) (locs1 : List Loc), zw Y z0 s H1 (va_up w.1 a (some (.inl (0, n1, .inl (va_cpy f g sp.toNatClampNeg dp.toNatClampNeg n.toNatClampNeg)))), w.2) → va_S (fun q => z0 ≤ q) s.heap H1 locs1 → W p l e R s m args below meth c H1 locs1 cells slots Q (F0 m (pc + 3) ls rest)) : W p l e R s m args below meth c H locs cells slots Q (F0 m pc ls (.int n :: .int dp :: .ref a :: .int sp :: .ref a0 :: rest)) := by
  intro T hT X
  obtain ⟨ws0, q0, hP0, -, hq0⟩ := hw.arr ha0 (by decide)
  obtain ⟨ws1, q1, hP1, hD1, hq1⟩ := hw.arr ha1 (by decide)
  have hc0 : H[a0]? = some (vp_cell (Y.2 0) (n0, .inl f)) := hP0 q0 _ hq0
  have hc1 : H[a]? = some (vp_cell (Y.2 0) (n1, .inl g)) := hP1 q1 _ hq1
  obtain ⟨-, k0, hk0, cm0, hkk0⟩ := (hK.2 0 _ rfl).1 n0 (fun j => .int (f j))
  obtain ⟨-, k1, hk1, cm1, hkk1⟩ := (hK.2 0 _ rfl).1 n1 (fun j => .int (g j))
  obtain ⟨vm', X', step⟩ := X.arraycopy hexec hown hlink hnat hstat hini (src := a0) (dst := a) (cs := vp_cell (Y.2 0) (n0, .inl f)) (cd := vp_cell (Y.2 0) (n1, .inl g)) (srcPos := sp) (destPos := dp) (n := n) (by rw [hT]; exact hc0) (by rw [hT]; exact hc1)
    (fun _ h => by cases h) (fun _ h => by cases h) (fun h => by cases h) (fun h => by cases h) hk0 hk1 hkk0 hkk1 (by simp [refKind]) h1 h2 h3
    (by rw [znn sp h1, znn n h3]; show ¬ _ > ((arrV (Y.2 0) n0 (fun j => .int (f j))).slots.size : Int); rw [arrV_size]; omega)
    (by rw [znn dp h2, znn n h3]; show ¬ _ > ((arrV (Y.2 0) n1 (fun j => .int (g j))).slots.size : Int); rw [arrV_size]; omega)
    (fun vm₁ _ i hi => by
      have e : (vp_cell (Y.2 0) (n0, .inl f)).slots.getD (sp.toNatClampNeg + i) .null = .int (f (sp.toNatClampNeg + i)) := by
        show (arrV (Y.2 0) n0 (fun j => .int (f j))).slots.getD _ _ = _
        rw [Array.getD_eq_getD_getElem?, arrV_read _ _ (by omega)]
        rfl
      refine ⟨?_, ?_⟩
      · rw [e]
        rfl
      · rw [e]
        exact trivial)
    (g := F0 m pc ls (.int n :: .int dp :: .ref a :: .int sp :: .ref a0 :: rest)) rfl (by rw [hml]) (rest := rest) rfl (by rw [hb]; exact hdg) hframes (by show 2 * 0 + _ + _ ≤ _; omega)
  have e1 : copied (vp_cell (Y.2 0) (n0, .inl f)) (vp_cell (Y.2 0) (n1, .inl g)) sp dp n = vp_cell (Y.2 0) (n1, .inl (va_cpy f g sp.toNatClampNeg dp.toNatClampNeg n.toNatClampNeg)) := va_copied (fun z => .int z) (Y.2 0) (Y.2 0) f g h4
  rw [e1] at X' step
  have hl : a < H.size := (Array.getElem?_eq_some_iff.mp hc1).1
  have hheap : ((T.setVm vm').setCell a (vp_cell (Y.2 0) (n1, .inl (va_cpy f g sp.toNatClampNeg dp.toNatClampNeg n.toNatClampNeg)))).heap = H.setIfInBounds a (vp_cell (Y.2 0) (n1, .inl (va_cpy f g sp.toNatClampNeg dp.toNatClampNeg n.toNatClampNeg))) := by rw [← hT]; rfl
  have oq : ∀ q : Nat, q ≠ a → (H.setIfInBounds a (vp_cell (Y.2 0) (n1, .inl (va_cpy f g sp.toNatClampNeg dp.toNatClampNeg n.toNatClampNeg))))[q]? = H[q]? := fun q hq => by simp [Array.getElem?_setIfInBounds, Ne.symm hq]
  obtain ⟨hw1, h0⟩ := hw.put (e := .inl (0, n1, .inl (va_cpy f g sp.toNatClampNeg dp.toNatClampNeg n.toNatClampNeg))) ha1 (fun y => by simp) (show (H.setIfInBounds a (vp_cell (Y.2 0) (n1, .inl (va_cpy f g sp.toNatClampNeg dp.toNatClampNeg n.toNatClampNeg))))[a]? = some _ by simp [Array.getElem?_setIfInBounds, hl]) (by simp) oq
  obtain ⟨t, a1, b1⟩ := kk _ _ hw1 ⟨by simp; exact hS.1, fun q g1 g2 => by
      rw [oq q (fun e => g2 (by rw [e]; exact h0))]
      exact hS.2.1 q g1 g2, fun q hq => by
      rcases List.mem_append.mp hq with h | h
      · exact hS.2.2 q h
      · obtain ⟨z, -, hz⟩ := List.mem_map.mp h
        rw [← hz]
        exact h0⟩ _ hheap X'
  exact ⟨t, step t a1, b1⟩
theorem zcp_l {own : String} {index a0 a n0 n1 : Nat} {f g : Nat → Int64} {sp dp n : Int32} {rest : List Value} (hexec : p.tables.exec = Jvm.exec) (hb : c.code = cc) (hml : c.maxLocals = ls.size) (hown : s.vm.findClass own = some m.cls) (hlink : (Cond.methodLink own index arraycopyName).before args s = true) (hnat : (Cond.native arraycopyName).before args s = true) (hstat : (Cond.static arraycopyName).before args s = true) (hini : (Cond.initialized "java/lang/System").before args s = true)
    (hK : va_K Y.1 vwCl (ztys Y) s) (hw : zw Y z0 s H w) (hS : va_S (fun q => z0 ≤ q) s.heap H locs) (ha0 : w.1 a0 = some (.inl (1, n0, .inr (.inl f)))) (ha1 : w.1 a = some (.inl (1, n1, .inr (.inl g)))) (h1 : ¬ sp < 0) (h2 : ¬ dp < 0) (h3 : ¬ n < 0) (h4 : sp.toNatClampNeg + n.toNatClampNeg ≤ n0) (h5 : dp.toNatClampNeg + n.toNatClampNeg ≤ n1)
    (hframes : 1 ≤ R.frames) (hlocals : (rest.map fun v => v.category).sum + (nativeFrameWords "java/lang/System" "arraycopy" 5 + 11) ≤ R.locals) (hdg : decode cc pc = .ok (.invokestatic index, 3))
    (kk : ∀ (H1 : Heap) (locs1 : List Loc), zw Y z0 s H1 (va_up w.1 a (some (.inl (1, n1, .inr (.inl (va_cpy f g sp.toNatClampNeg dp.toNatClampNeg n.toNatClampNeg))))), w.2) → va_S (fun q => z0 ≤ q) s.heap H1 locs1 → W p l e R s m args below meth c H1 locs1 cells slots Q (F0 m (pc + 3) ls rest)) : W p l e R s m args below meth c H locs cells slots Q (F0 m pc ls (.int n :: .int dp :: .ref a :: .int sp :: .ref a0 :: rest)) := by
  intro T hT X
  obtain ⟨ws0, q0, hP0, -, hq0⟩ := hw.arr ha0 (by decide)
  obtain ⟨ws1, q1, hP1, hD1, hq1⟩ := hw.arr ha1 (by decide)
  have hc0 : H[a0]? = some (vp_cell (Y.2 1) (n0, .inr (.inl f))) := hP0 q0 _ hq0
  have hc1 : H[a]? = some (vp_cell (Y.2 1) (n1, .inr (.inl g))) := hP1 q1 _ hq1
  obtain ⟨-, k0, hk0, cm0, hkk0⟩ := (hK.2 1 _ rfl).1 n0 (fun j => .long (f j))
  obtain ⟨-, k1, hk1, cm1, hkk1⟩ := (hK.2 1 _ rfl).1 n1 (fun j => .long (g j))
  obtain ⟨vm', X', step⟩ := X.arraycopy hexec hown hlink hnat hstat hini (src := a0) (dst := a) (cs := vp_cell (Y.2 1) (n0, .inr (.inl f))) (cd := vp_cell (Y.2 1) (n1, .inr (.inl g))) (srcPos := sp) (destPos := dp) (n := n) (by rw [hT]; exact hc0) (by rw [hT]; exact hc1)
    (fun _ h => by cases h) (fun _ h => by cases h) (fun h => by cases h) (fun h => by cases h) hk0 hk1 hkk0 hkk1 (by simp [refKind]) h1 h2 h3
    (by rw [znn sp h1, znn n h3]; show ¬ _ > ((arrV (Y.2 1) n0 (fun j => .long (f j))).slots.size : Int); rw [arrV_size]; omega)
    (by rw [znn dp h2, znn n h3]; show ¬ _ > ((arrV (Y.2 1) n1 (fun j => .long (g j))).slots.size : Int); rw [arrV_size]; omega)
    (fun vm₁ _ i hi => by
      have e : (vp_cell (Y.2 1) (n0, .inr (.inl f))).slots.getD (sp.toNatClampNeg + i) .null = .long (f (sp.toNatClampNeg + i)) := by
        show (arrV (Y.2 1) n0 (fun j => .long (f j))).slots.getD _ _ = _
        rw [Array.getD_eq_getD_getElem?, arrV_read _ _ (by omega)]
        rfl
      refine ⟨?_, ?_⟩
      · rw [e]
        rfl
      · rw [e]
        exact trivial)
    (g := F0 m pc ls (.int n :: .int dp :: .ref a :: .int sp :: .ref a0 :: rest)) rfl (by rw [hml]) (rest := rest) rfl (by rw [hb]; exact hdg) hframes (by show 2 * 0 + _ + _ ≤ _; omega)
  have e1 : copied (vp_cell (Y.2 1) (n0, .inr (.inl f))) (vp_cell (Y.2 1) (n1, .inr (.inl g))) sp dp n = vp_cell (Y.2 1) (n1, .inr (.inl (va_cpy f g sp.toNatClampNeg dp.toNatClampNeg n.toNatClampNeg))) := va_copied (fun z => .long z) (Y.2 1) (Y.2 1) f g h4
  rw [e1] at X' step
  have hl : a < H.size := (Array.getElem?_eq_some_iff.mp hc1).1
  have hheap : ((T.setVm vm').setCell a (vp_cell (Y.2 1) (n1, .inr (.inl (va_cpy f g sp.toNatClampNeg dp.toNatClampNeg n.toNatClampNeg))))).heap = H.setIfInBounds a (vp_cell (Y.2 1) (n1, .inr (.inl (va_cpy f g sp.toNatClampNeg dp.toNatClampNeg n.toNatClampNeg)))) := by rw [← hT]; rfl
  have oq : ∀ q : Nat, q ≠ a → (H.setIfInBounds a (vp_cell (Y.2 1) (n1, .inr (.inl (va_cpy f g sp.toNatClampNeg dp.toNatClampNeg n.toNatClampNeg)))))[q]? = H[q]? := fun q hq => by simp [Array.getElem?_setIfInBounds, Ne.symm hq]
  obtain ⟨hw1, h0⟩ := hw.put (e := .inl (1, n1, .inr (.inl (va_cpy f g sp.toNatClampNeg dp.toNatClampNeg n.toNatClampNeg)))) ha1 (fun y => by simp) (show (H.setIfInBounds a (vp_cell (Y.2 1) (n1, .inr (.inl (va_cpy f g sp.toNatClampNeg dp.toNatClampNeg n.toNatClampNeg)))))[a]? = some _ by simp [Array.getElem?_setIfInBounds, hl]) (by simp) oq
  obtain ⟨t, a1, b1⟩ := kk _ _ hw1 ⟨by simp; exact hS.1, fun q g1 g2 => by
      rw [oq q (fun e => g2 (by rw [e]; exact h0))]
      exact hS.2.1 q g1 g2, fun q hq => by
      rcases List.mem_append.mp hq with h | h
      · exact hS.2.2 q h
      · obtain ⟨z, -, hz⟩ := List.mem_map.mp h
        rw [← hz]
        exact h0⟩ _ hheap X'
  exact ⟨t, step t a1, b1⟩
theorem znat : nativeFrameWords "java/lang/System" "arraycopy" 5 + 11 ≤ 52 := by decide +kernel
theorem zHcp_ok {o d idx : Nat} (hx : p.tables.exec = Jvm.exec) (hb : c.code = cc) (hml : c.maxLocals = ls.size) (hts : ∀ w ∈ zT, w.before args s = true) (hown : s.vm.findClass (zOwn o) = some m.cls) (hK : va_K Y.1 vwCl (ztys Y) s) (hz : zHcp o d idx len pc st w = some (pc', st', w')) (hd : decode cc pc = .ok (.invokestatic idx, len)) (hw : zw Y z0 s H w) (hS : va_S (fun q => z0 ≤ q) s.heap H locs) (hfr : d ≤ R.frames) (hlo : 60 * d ≤ R.locals) (kk : ∀ (H1 : Heap) (locs1 : List Loc), zw Y z0 s H1 w' → va_S (fun q => z0 ≤ q) s.heap H1 locs1 → w'.2 = w.2 → W p l e R s m args below meth c H1 locs1 cells slots Q (F0 m pc' ls st')) : W p l e R s m args below meth c H locs cells slots Q (F0 m pc ls st) := by
  unfold zHcp at hz
  split at hz
  · rename_i n dp a sp a0 r
    split at hz
    · rename_i hc
      obtain ⟨rfl, hd1, hr8, hcl, g1, g2, g3⟩ := hc
      have h1 := List.all_eq_true.mp zCl_ok _ (zcl_inv hcl)
      obtain ⟨f1, f2, f3, f4, f5, f6, f7, f8, f9, f10⟩ := zfix
      have hnat := znat
      unfold zsum at hr8
      split at hz
      · rename_i n0 f n1 g ha0 ha1
        split at hz
        · rename_i h4
          simp only [Option.some.injEq, Prod.mk.injEq] at hz
          obtain ⟨rfl, rfl, rfl⟩ := hz
          exact zcp_i hx hb hml hown (hts _ (of_decide_eq_true h1)) (hts _ f8) (hts _ f9) (hts _ f10) hK hw hS ha0 ha1 g1 g2 g3 h4.1 h4.2 (by omega) (by omega) hd (fun H1 locs1 a b => kk H1 locs1 a b rfl)
        · cases hz
      · rename_i n0 f n1 g ha0 ha1
        split at hz
        · rename_i h4
          simp only [Option.some.injEq, Prod.mk.injEq] at hz
          obtain ⟨rfl, rfl, rfl⟩ := hz
          exact zcp_l hx hb hml hown (hts _ (of_decide_eq_true h1)) (hts _ f8) (hts _ f9) (hts _ f10) hK hw hS ha0 ha1 g1 g2 g3 h4.1 h4.2 (by omega) (by omega) hd (fun H1 locs1 a b => kk H1 locs1 a b rfl)
        · cases hz
      · cases hz
    · cases hz
  · cases hz
end ZCP
