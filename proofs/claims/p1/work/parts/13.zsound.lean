/-! THE SMALL MACHINE IS SOUND: where it comes to an end, the machine does, with the same answer and the same heap -/
theorem zend_len {ret : Option FieldType} {i : Instr} {len : Nat} {st : List Value} {r : Option Value} (h : zend ret i len st = some r) : len = 1 := by
  cases i <;> simp only [zend, reduceCtorEq] at h
  all_goals (split at h <;> first | (split at h <;> first | (rename_i hc; first | exact hc | exact hc.1) | cases h) | cases h)
def zle (w w' : zW) : Prop := w.2.1 ≤ w'.2.1 ∧ w.2.2 ≤ w'.2.2
theorem zle.refl (w : zW) : zle w w := ⟨Nat.le_refl _, Nat.le_refl _⟩
theorem zle.trans {a b c : zW} (h : zle a b) (h' : zle b c) : zle a c := ⟨Nat.le_trans h.1 h'.1, Nat.le_trans h.2 h'.2⟩
section ZS
variable {p : Program} {l : Launch} {e : Env} {R : Room} {s : State} {m : MethodId} {args : Array Value} {below : List Frame} {meth : Method} {c : Code} {H : Heap} {locs : List Loc} {cells slots : Nat} {Q : State → Prop}
variable {pc len d : Nat} {ls : Array Slot} {st st' : List Value} {pc' : Nat} {Y : zY} {z0 : Nat} {w w1 : zW} {M : zMe} {i : Instr}
theorem zH_le {o : Nat} {ini : Bool} (hz : zH o ini d i len pc st w = some (pc', st', w1)) : zle w w1 := by
  unfold zH at hz
  split at hz
  case h_20 =>
    split at hz
    · rename_i g hg
      cases hz
      simp only [zHmm] at hg
      repeat' split at hg
      all_goals first | (cases hg; done) | (simp only [Option.some.injEq, Prod.mk.injEq] at hg; obtain ⟨-, -, rfl⟩ := hg; exact zle.refl _)
    · simp only [zHcp] at hz
      repeat' split at hz
      all_goals first | (cases hz; done) | (simp only [Option.some.injEq, Prod.mk.injEq] at hz; obtain ⟨-, -, rfl⟩ := hz; exact ⟨Nat.le_refl _, Nat.le_refl _⟩)
  all_goals (try simp only [zHget, zHput, zHia, zHba, zHla, zHaa, zHal, zHis, zHbs, zHls, zHas, zHnew, zHna, zHnq, zHin, zHcc, zHl2, zHlw, zHob] at hz)
  all_goals (repeat' split at hz)
  all_goals first | (cases hz; done) | (simp only [Option.some.injEq, Prod.mk.injEq] at hz; obtain ⟨-, -, rfl⟩ := hz; first | exact zle.refl _ | exact ⟨Nat.le_refl _, Nat.le_refl _⟩ | exact ⟨Nat.le_add_right _ _, Nat.le_add_right _ _⟩)
theorem zH_ok {nL : Nat} (C : zCtx p s m args meth c Y z0 M) (hz : zH M.2.2.2.2.1 M.2.2.2.2.2 d i len pc st w = some (pc', st', w1)) (hd : decode M.2.1 pc = .ok (i, len)) (hw : zw Y z0 s H w) (hS : va_S (fun q => z0 ≤ q) s.heap H locs) (hsz : ls.size = M.2.2.1) (hfr : d ≤ R.frames) (hlo : 60 * d ≤ R.locals) (hce : cells + (w1.2.1 - w.2.1) ≤ R.cells) (hsl : slots + (w1.2.2 - w.2.2) ≤ R.slots)
    (kk : ∀ (H1 : Heap) (locs1 : List Loc), zw Y z0 s H1 w1 → va_S (fun q => z0 ≤ q) s.heap H1 locs1 → W p l e R s m args below meth c H1 locs1 (cells + (w1.2.1 - w.2.1)) (slots + (w1.2.2 - w.2.2)) Q (F0 m pc' ls st')) : W p l e R s m args below meth c H locs cells slots Q (F0 m pc ls st) := by
  obtain ⟨hx, hb, hml, hr0, hlk, hts, hown, hini, hKz, hz0⟩ := C
  have hml' : c.maxLocals = ls.size := hml.trans hsz.symm
  have k1 : ∀ (H1 : Heap) (locs1 : List Loc), zw Y z0 s H1 w1 → va_S (fun q => z0 ≤ q) s.heap H1 locs1 → w1.2 = w.2 → W p l e R s m args below meth c H1 locs1 cells slots Q (F0 m pc' ls st') := by
    intro H1 locs1 h1 h2 h3
    have := kk H1 locs1 h1 h2
    rw [h3, Nat.sub_self, Nat.sub_self] at this
    exact this
  have k0 : w1 = w → W p l e R s m args below meth c H locs cells slots Q (F0 m pc' ls st') := fun h => k1 H locs (by rw [h]; exact hw) hS (by rw [h])
  cases i <;> simp only [zH, reduceCtorEq] at hz
  case getfield idx => exact zHget_ok hx hb hts hown hKz.1 hz hd hw k0
  case putfield idx => exact zHput_ok hx hb hts hown hini hKz.1 hz hd hw hS k1
  case iaload => exact zHia_ok hx hb hKz.1 hz hd hw k0 hKz.2.1
  case baload => exact zHba_ok hx hb hKz.1 hz hd hw k0
  case laload => exact zHla_ok hx hb hKz.1 hz hd hw k0
  case aaload => exact zHaa_ok hx hb hKz.1 hz hd hw k0
  case arraylength => exact zHal_ok hx hb hKz.1 hz hd hw k0 hKz.2.1
  case iastore => exact zHis_ok hx hb hKz.1 hz hd hw hS k1
  case bastore => exact zHbs_ok hx hb hKz.1 hz hd hw hS k1
  case lastore => exact zHls_ok hx hb hKz.1 hz hd hw hS k1
  case aastore => exact zHas_ok hx hb hKz hz hd hw hS k1
  case new idx => exact zHnew_ok hx hb hts hown hKz.1 hz hd hw hz0 hS hce hsl kk
  case newarray t => exact zHna_ok hx hb hts hKz.1 hz hd hw hz0 hS hce hsl kk
  case anewarray idx => exact zHnq_ok hx hb hts hown hKz hz hd hw hz0 hS hce hsl kk
  case instanceof idx => exact zHin_ok hx hb hts hown hKz hz hd hw k0
  case checkcast idx => exact zHcc_ok hx hb hts hown hKz hz hd hw k0
  case ldc2_w idx => exact zHl2_ok hx hb hts hown hz hd k0
  case ldc_w idx => exact zHlw_ok hx hb hts hown hz hd k0
  case invokespecial idx => exact zHob_ok hx hb hml' hts hown hz hd hfr hlo k0
  case invokestatic idx =>
    split at hz
    · rename_i g hg
      cases hz
      exact zHmm_ok hx hb hml' hts hown hg hd hfr hlo (by omega) (by omega) k0
    · exact zHcp_ok hx hb hml' hts hown hKz.1 hz hd hw hS hfr hlo k1
theorem z_call {mc ms : Nat} {a : Array Value} {rest st0 : List Value} {v : Option Value} (hr : va_Run p l e R s m args below meth c H locs cells slots mc ms (F0 m pc ls st0) rest (zQ Y z0 v w1 a) (fun q => z0 ≤ q)) (hS : va_S (fun q => z0 ≤ q) s.heap H locs)
    (kk : ∀ (H1 : Heap) (locs1 : List Loc), zw Y z0 s H1 w1 → va_S (fun q => z0 ≤ q) s.heap H1 locs1 → W p l e R s m args below meth c H1 locs1 (cells + mc) (slots + ms) Q (F0 m (pc + 3) ls (v.toList ++ rest))) : W p l e R s m args below meth c H locs cells slots Q (F0 m pc ls st0) := by
  intro T hT X
  obtain ⟨v', st₀, t, T', L, h0, X', hL, e1, e2, ⟨hv, hw1, hz, hk⟩, st⟩ := hr T hT X
  cases hv
  rw [h0] at hz hk
  obtain ⟨t2, a1, b1⟩ := kk T'.heap (locs ++ L) (by rw [e1]; exact hw1.moved (by rw [← e2]; exact X'.warmed.alike.symm))
    ⟨Nat.le_trans hS.1 (by rw [e1]; exact hz), fun q h1 h2 => by rw [e1, hk q (Nat.lt_of_lt_of_le h1 hS.1) h2]; exact hS.2.1 q h1 h2, fun q hq => by
      rcases List.mem_append.mp hq with h | h
      · exact hS.2.2 q h
      · exact hL q h⟩ T' rfl X'
  exact ⟨t2, st t2 a1, b1⟩
end ZS
theorem zen_args : ∀ (vs : List Value) (k j : Nat), ∀ q ∈ zas k (zen vs ++ List.replicate j none), q ∈ lv_args k vs
  | [], k, j => by
    intro q hq
    simp only [zen, List.nil_append] at hq
    obtain ⟨i, v⟩ := q
    have h := ((zas_mem _ _ _ _).mp hq).2
    unfold zget at h
    rw [List.getElem?_replicate] at h
    split at h <;> simp at h
  | v :: vs, k, j => by
    intro q hq
    unfold zen at hq
    split at hq
    · rename_i hc
      simp only [List.cons_append, zas, List.mem_cons] at hq
      simp only [lv_args, hc, if_true, List.mem_cons]
      rcases hq with h | h
      · exact Or.inl h
      · exact Or.inr (zen_args vs (k + 2) j q h)
    · rename_i hc
      simp only [List.cons_append, zas, List.mem_cons] at hq
      simp only [lv_args, hc, if_false, List.mem_cons]
      rcases hq with h | h
      · exact Or.inl h
      · exact Or.inr (zen_args vs (k + 1) j q h)
theorem zen_len : ∀ vs : List Value, (zen vs).length = (lg_sl vs).length
  | [] => rfl
  | v :: vs => by
    have ih := zen_len vs
    unfold zen lg_sl
    rw [List.flatMap_cons, List.length_append]
    unfold lg_sl at ih
    split
    · simp [ih]; omega
    · simp [ih]; omega
theorem zR_entry {vs : List Value} {n : Nat} (h : (zen vs).length ≤ n) : zR ((lg_sl vs ++ List.replicate (n - (lg_sl vs).length) Slot.unset).toArray) n (zin n vs) := by
  rw [zen_len] at h
  exact lv_more (lv_entry vs h) (fun q hq => zen_args vs 0 _ q hq)
