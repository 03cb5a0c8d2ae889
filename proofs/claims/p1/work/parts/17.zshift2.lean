/-! the same run with other addresses: the heap -/
section ZV2
variable {ρ : Nat → Nat} {B : Nat → Option va_E} {w W w1 : zW}
theorem zsim.put {a : Nat} {e : va_E} (hρ : ∀ a b, ρ a = ρ b → a = b) (h : zsim ρ B w W) : zsim ρ B (va_up w.1 a (some e), w.2) (va_up W.1 (ρ a) (some (zvE ρ e)), W.2) := by
  obtain ⟨h1, h2, h3, h4, h5⟩ := h
  refine ⟨h1, h2, h3, fun b x hb => ?_, fun q hq => ?_⟩
  · by_cases hba : b = a
    · subst hba
      simp only [va_up, if_true, Option.some.injEq] at hb ⊢
      rw [hb]
    · simp only [va_up, if_neg hba] at hb
      have : ρ b ≠ ρ a := fun h => hba (hρ _ _ h)
      simp only [va_up, if_neg this]
      exact h4 b x hb
  · have hqa : q ≠ ρ a := fun h => hq a e (by simp [va_up]) h.symm
    simp only [va_up, if_neg hqa]
    refine h5 q (fun b x hb => ?_)
    by_cases hba : b = a
    · subst hba
      exact fun h => hqa h.symm
    · exact hq b x (by simp only [va_up, if_neg hba]; exact hb)
theorem zsim.new {e : va_E} (k : Nat) (hρ : ∀ a b, ρ a = ρ b → a = b) (hs : ∀ n, 1 ≤ n → ρ (n + 1) = ρ n + 1) (h : zsim ρ B w W) : zsim ρ B (va_up w.1 w.2.1 (some e), w.2.1 + 1, w.2.2 + k) (va_up W.1 W.2.1 (some (zvE ρ e)), W.2.1 + 1, W.2.2 + k) := by
  have h' := h.put (a := w.2.1) (e := e) hρ
  obtain ⟨h1, h2, h3, h4, h5⟩ := h
  obtain ⟨-, -, -, g4, g5⟩ := h'
  rw [← h1] at g4 g5
  exact ⟨by show W.2.1 + 1 = ρ (w.2.1 + 1); rw [hs _ h3, h1], by show W.2.2 + k = w.2.2 + k; rw [h2], Nat.le_add_left 1 _, g4, g5⟩
theorem zv_ref (a : Nat) : zv ρ (.ref a) = .ref (ρ a) := rfl
theorem zokv_v (ty : FieldType) (v : Value) : zokv ty (zv ρ v) = zokv ty v := by
  cases v <;> cases ty <;> rfl
theorem zdf_v (ci : Nat) : (zdf ci).map (zv ρ) = zdf ci := by
  unfold zdf
  split <;> rfl
theorem zrf_v (r : Option Nat) : va_rf (r.map ρ) = zv ρ (va_rf r) := by
  cases r <;> rfl
theorem zsum_v (r : List Value) : zsum (zvS ρ r) = zsum r := by
  unfold zsum zvS
  rw [List.map_map]
  congr 1
  apply List.map_congr_left
  intro v _
  exact zv_cat v
theorem zH_v {o d len pc pc' : Nat} {ini : Bool} {i : Instr} {st st' : List Value} (hρ : ∀ a b, ρ a = ρ b → a = b) (hs : ∀ n, 1 ≤ n → ρ (n + 1) = ρ n + 1) (hz : zH o ini d i len pc st w = some (pc', st', w1)) (hw : zsim ρ B w W) : ∃ W1, zH o ini d i len pc (zvS ρ st) W = some (pc', zvS ρ st', W1) ∧ zsim ρ B w1 W1 := by
  have hr := hw.2.2.2.1
  cases i <;> simp only [zH, reduceCtorEq] at hz ⊢
  case getfield idx =>
    unfold zHget at hz
    split at hz
    · rename_i a r
      split at hz
      · rename_i ci fs k cs ha hf
        split at hz
        · rename_i hc
          split at hz
          · rename_i v hv
            simp only [Option.some.injEq, Prod.mk.injEq] at hz
            obtain ⟨rfl, rfl, rfl⟩ := hz
            refine ⟨W, ?_, hw⟩
            have hv' : (fs.map (zv ρ))[k]? = some (zv ρ v) := by rw [List.getElem?_map, hv]; rfl
            have ha' := hr a _ ha
            simp only [zvE] at ha'
            simp only [zHget, zvS, List.map_cons, zv, ha', hf, if_pos hc, hv']
          · cases hz
        · cases hz
      · cases hz
    · cases hz
  case putfield idx =>
    unfold zHput at hz
    split at hz
    · rename_i v a r
      split at hz
      · rename_i ci fs k cs ha hf
        split at hz
        · rename_i hc
          simp only [Option.some.injEq, Prod.mk.injEq] at hz
          obtain ⟨rfl, rfl, rfl⟩ := hz
          have ha' := hr a _ ha
          simp only [zvE] at ha'
          refine ⟨_, ?_, hw.put (a := a) (e := .inr (ci, fs.set k v)) hρ⟩
          have hl : k < (fs.map (zv ρ)).length := by rw [List.length_map]; exact hc.2.2.1
          simp only [zHput, zvS, List.map_cons, zv_ref, ha', hf]
          rw [if_pos ⟨hc.1, hc.2.1, hl, by rw [zokv_v]; exact hc.2.2.2.1, hc.2.2.2.2⟩]
          simp only [zvE, List.map_set]
        · cases hz
      · cases hz
    · cases hz
  case iaload =>
    unfold zHia at hz
    split at hz
    · rename_i i a r
      split at hz
      · rename_i kd N f ha
        split at hz
        · rename_i hc
          simp only [Option.some.injEq, Prod.mk.injEq] at hz
          obtain ⟨rfl, rfl, rfl⟩ := hz
          have ha' := hr a _ ha
          simp only [zvE] at ha'
          exact ⟨W, by simp only [zHia, zvS, List.map_cons, zv, ha', if_pos hc], hw⟩
        · cases hz
      · cases hz
    · cases hz
  case baload =>
    unfold zHba at hz
    split at hz
    · rename_i i a r
      split at hz
      · rename_i kd N f ha
        split at hz
        · rename_i hc
          simp only [Option.some.injEq, Prod.mk.injEq] at hz
          obtain ⟨rfl, rfl, rfl⟩ := hz
          have ha' := hr a _ ha
          simp only [zvE] at ha'
          exact ⟨W, by simp only [zHba, zvS, List.map_cons, zv, ha', if_pos hc], hw⟩
        · cases hz
      · cases hz
    · cases hz
  case laload =>
    unfold zHla at hz
    split at hz
    · rename_i i a r
      split at hz
      · rename_i kd N f ha
        split at hz
        · rename_i hc
          simp only [Option.some.injEq, Prod.mk.injEq] at hz
          obtain ⟨rfl, rfl, rfl⟩ := hz
          have ha' := hr a _ ha
          simp only [zvE] at ha'
          exact ⟨W, by simp only [zHla, zvS, List.map_cons, zv, ha', if_pos hc], hw⟩
        · cases hz
      · cases hz
    · cases hz
  case aaload =>
    unfold zHaa at hz
    split at hz
    · rename_i i a r
      split at hz
      · rename_i kd N f ha
        split at hz
        · rename_i hc
          simp only [Option.some.injEq, Prod.mk.injEq] at hz
          obtain ⟨rfl, rfl, rfl⟩ := hz
          have ha' := hr a _ ha
          simp only [zvE] at ha'
          refine ⟨W, ?_, hw⟩
          simp only [zHaa, zvS, List.map_cons, zv, ha', if_pos hc, zrf_v]
        · cases hz
      · cases hz
    · cases hz
  case arraylength =>
    unfold zHal at hz
    split at hz
    · rename_i a r
      split at hz
      · rename_i kd N f ha
        split at hz
        · rename_i hc
          simp only [Option.some.injEq, Prod.mk.injEq] at hz
          obtain ⟨rfl, rfl, rfl⟩ := hz
          have ha' := hr a _ ha
          refine ⟨W, ?_, hw⟩
          obtain f | f | f | f | f := f <;> simp only [zvE] at ha' <;> simp only [zHal, zvS, List.map_cons, zv, ha', if_pos hc]
        · cases hz
      · cases hz
    · cases hz
  case iastore =>
    unfold zHis at hz
    split at hz
    · rename_i x i a r
      split at hz
      · rename_i kd N f ha
        split at hz
        · rename_i hc
          simp only [Option.some.injEq, Prod.mk.injEq] at hz
          obtain ⟨rfl, rfl, rfl⟩ := hz
          have ha' := hr a _ ha
          simp only [zvE] at ha'
          exact ⟨_, by simp only [zHis, zvS, List.map_cons, zv, ha', if_pos hc, zvE], hw.put (a := a) (e := .inl (0, N, .inl (upd f i.toNatClampNeg x))) hρ⟩
        · cases hz
      · cases hz
    · cases hz
  case bastore =>
    unfold zHbs at hz
    split at hz
    · rename_i x i a r
      split at hz
      · rename_i kd N f ha
        split at hz
        · rename_i hc
          simp only [Option.some.injEq, Prod.mk.injEq] at hz
          obtain ⟨rfl, rfl, rfl⟩ := hz
          have ha' := hr a _ ha
          simp only [zvE] at ha'
          exact ⟨_, by simp only [zHbs, zvS, List.map_cons, zv, ha', if_pos hc, zvE], hw.put (a := a) (e := .inl (2, N, .inl (upd f i.toNatClampNeg (vp_nar .boolean x)))) hρ⟩
        · cases hz
      · cases hz
    · cases hz
  case lastore =>
    unfold zHls at hz
    split at hz
    · rename_i x i a r
      split at hz
      · rename_i kd N f ha
        split at hz
        · rename_i hc
          simp only [Option.some.injEq, Prod.mk.injEq] at hz
          obtain ⟨rfl, rfl, rfl⟩ := hz
          have ha' := hr a _ ha
          simp only [zvE] at ha'
          exact ⟨_, by simp only [zHls, zvS, List.map_cons, zv, ha', if_pos hc, zvE], hw.put (a := a) (e := .inl (1, N, .inr (.inl (vp_updL f i.toNatClampNeg x)))) hρ⟩
        · cases hz
      · cases hz
    · cases hz
  case aastore =>
    unfold zHas at hz
    split at hz
    · rename_i v i a r
      split at hz
      · rename_i kd N f ci fs ha hv
        split at hz
        · rename_i hc
          simp only [Option.some.injEq, Prod.mk.injEq] at hz
          obtain ⟨rfl, rfl, rfl⟩ := hz
          have ha' := hr a _ ha
          have hv' := hr v _ hv
          simp only [zvE] at ha' hv'
          have hf : (fun j => (va_up f i.toNatClampNeg (some v) j).map ρ) = va_up (fun j => (f j).map ρ) i.toNatClampNeg (some (ρ v)) := by
            funext j
            unfold va_up
            split <;> rfl
          refine ⟨_, ?_, hw.put (a := a) (e := .inl (kd, N, .inr (.inr (.inr (.inr (va_up f i.toNatClampNeg (some v))))))) hρ⟩
          simp only [zHas, zvS, List.map_cons, zv, ha', hv', if_pos hc, zvE, hf]
        · cases hz
      · cases hz
    · cases hz
  case new idx =>
    unfold zHnew at hz
    split at hz
    · rename_i ci hck
      split at hz
      · rename_i hl
        simp only [Option.some.injEq, Prod.mk.injEq] at hz
        obtain ⟨rfl, rfl, rfl⟩ := hz
        refine ⟨_, ?_, hw.new (e := .inr (ci, zdf ci)) (ztab ci).2.2 hρ hs⟩
        simp only [zHnew, hck, if_pos hl, zvE, zdf_v, zvS, List.map_cons, zv, hw.1]
      · cases hz
    · cases hz
  case newarray t =>
    unfold zHna at hz
    split at hz
    · rename_i n r
      split at hz
      · rename_i hc
        split at hz
        · simp only [Option.some.injEq, Prod.mk.injEq] at hz
          obtain ⟨rfl, rfl, rfl⟩ := hz
          refine ⟨_, ?_, hw.new (e := .inl (0, n.toNatClampNeg, .inl (fun _ => 0))) n.toNatClampNeg hρ hs⟩
          simp only [zHna, zvS, List.map_cons, zv, if_pos hc, zvE, hw.1]
        · simp only [Option.some.injEq, Prod.mk.injEq] at hz
          obtain ⟨rfl, rfl, rfl⟩ := hz
          refine ⟨_, ?_, hw.new (e := .inl (1, n.toNatClampNeg, .inr (.inl (fun _ => 0)))) n.toNatClampNeg hρ hs⟩
          simp only [zHna, zvS, List.map_cons, zv, if_pos hc, zvE, hw.1]
        · simp only [Option.some.injEq, Prod.mk.injEq] at hz
          obtain ⟨rfl, rfl, rfl⟩ := hz
          refine ⟨_, ?_, hw.new (e := .inl (2, n.toNatClampNeg, .inl (fun _ => 0))) n.toNatClampNeg hρ hs⟩
          simp only [zHna, zvS, List.map_cons, zv, if_pos hc, zvE, hw.1]
        · cases hz
      · cases hz
    · cases hz
  case anewarray idx =>
    unfold zHnq at hz
    split at hz
    · rename_i n r
      split at hz
      · rename_i kd hkd
        split at hz
        · rename_i hc
          simp only [Option.some.injEq, Prod.mk.injEq] at hz
          obtain ⟨rfl, rfl, rfl⟩ := hz
          refine ⟨_, ?_, hw.new (e := .inl (kd, n.toNatClampNeg, .inr (.inr (.inr (.inr (fun _ => none)))))) n.toNatClampNeg hρ hs⟩
          simp only [zHnq, zvS, List.map_cons, zv, hkd, if_pos hc, zvE, hw.1, Option.map_none]
        · cases hz
      · cases hz
    · cases hz
  case instanceof idx =>
    unfold zHin at hz
    split at hz
    · split at hz
      · rename_i hl
        simp only [Option.some.injEq, Prod.mk.injEq] at hz
        obtain ⟨rfl, rfl, rfl⟩ := hz
        exact ⟨W, by simp only [zHin, zvS, List.map_cons, zv, if_pos hl], hw⟩
      · cases hz
    · rename_i a r
      split at hz
      · rename_i ci fs ha
        split at hz
        · rename_i hc
          simp only [Option.some.injEq, Prod.mk.injEq] at hz
          obtain ⟨rfl, rfl, rfl⟩ := hz
          have ha' := hr a _ ha
          simp only [zvE] at ha'
          exact ⟨W, by simp only [zHin, zvS, List.map_cons, zv, ha', if_pos hc], hw⟩
        · cases hz
      · cases hz
    · cases hz
  case checkcast idx =>
    unfold zHcc at hz
    split at hz
    · rename_i a r
      split at hz
      · rename_i ci fs ha
        split at hz
        · rename_i hc
          simp only [Option.some.injEq, Prod.mk.injEq] at hz
          obtain ⟨rfl, rfl, rfl⟩ := hz
          have ha' := hr a _ ha
          simp only [zvE] at ha'
          exact ⟨W, by simp only [zHcc, zvS, List.map_cons, zv, ha', if_pos hc], hw⟩
        · cases hz
      · cases hz
    · cases hz
  case ldc2_w idx =>
    unfold zHl2 at hz
    split at hz
    · rename_i v hv
      split at hz
      · rename_i hl
        simp only [Option.some.injEq, Prod.mk.injEq] at hz
        obtain ⟨rfl, rfl, rfl⟩ := hz
        exact ⟨W, by simp only [zHl2, hv, if_pos hl, zvS, List.map_cons, zv], hw⟩
      · cases hz
    · cases hz
  case ldc_w idx =>
    unfold zHlw at hz
    split at hz
    · rename_i v hv
      split at hz
      · rename_i hl
        simp only [Option.some.injEq, Prod.mk.injEq] at hz
        obtain ⟨rfl, rfl, rfl⟩ := hz
        exact ⟨W, by simp only [zHlw, hv, if_pos hl, zvS, List.map_cons, zv], hw⟩
      · cases hz
    · cases hz
  case invokespecial idx =>
    unfold zHob at hz
    split at hz
    · rename_i a r
      split at hz
      · rename_i hc
        simp only [Option.some.injEq, Prod.mk.injEq] at hz
        obtain ⟨rfl, rfl, rfl⟩ := hz
        refine ⟨W, ?_, hw⟩
        have h8 := zsum_v (ρ := ρ) r
        unfold zvS at h8
        simp only [zHob, zvS, List.map_cons, zv, h8, if_pos hc]
      · cases hz
    · cases hz
  case invokestatic idx =>
    split at hz
    · rename_i g hg
      cases hz
      unfold zHmm at hg
      split at hg
      · rename_i y x r
        have h8 := zsum_v (ρ := ρ) r
        unfold zvS at h8
        split at hg
        · rename_i hc
          split at hg
          · rename_i h1
            simp only [Option.some.injEq, Prod.mk.injEq] at hg
            obtain ⟨rfl, rfl, rfl⟩ := hg
            exact ⟨W, by simp only [zHmm, zvS, List.map_cons, zv, h8, if_pos hc, if_pos h1], hw⟩
          · rename_i h1
            split at hg
            · rename_i h2
              simp only [Option.some.injEq, Prod.mk.injEq] at hg
              obtain ⟨rfl, rfl, rfl⟩ := hg
              exact ⟨W, by simp only [zHmm, zvS, List.map_cons, zv, h8, if_pos hc, if_neg h1, if_pos h2], hw⟩
            · cases hg
        · cases hg
      · cases hg
    · unfold zHcp at hz
      split at hz
      · rename_i n dp a sp a0 r hmm
        have h8 := zsum_v (ρ := ρ) r
        unfold zvS at h8
        split at hz
        · rename_i hc
          have hmm' : ∀ (st' : List Value) (W' : zW), zHmm o d idx len pc st' W' = none := by
            intro st' W'
            unfold zHmm
            split
            · split
              · rw [hc.2.2.2.1]
                simp
              · rfl
            · rfl
          split at hz
          · rename_i n0 f n1 g ha0 ha1
            split at hz
            · rename_i h4
              simp only [Option.some.injEq, Prod.mk.injEq] at hz
              obtain ⟨rfl, rfl, rfl⟩ := hz
              have ha0' := hr a0 _ ha0
              have ha1' := hr a _ ha1
              simp only [zvE] at ha0' ha1'
              refine ⟨_, ?_, hw.put (a := a) (e := .inl (0, n1, .inl (va_cpy f g sp.toNatClampNeg dp.toNatClampNeg n.toNatClampNeg))) hρ⟩
              simp only [hmm', zHcp, zvS, List.map_cons, zv, h8, if_pos hc, ha0', ha1', if_pos h4, zvE]
            · cases hz
          · rename_i n0 f n1 g ha0 ha1
            split at hz
            · rename_i h4
              simp only [Option.some.injEq, Prod.mk.injEq] at hz
              obtain ⟨rfl, rfl, rfl⟩ := hz
              have ha0' := hr a0 _ ha0
              have ha1' := hr a _ ha1
              simp only [zvE] at ha0' ha1'
              refine ⟨_, ?_, hw.put (a := a) (e := .inl (1, n1, .inr (.inl (va_cpy f g sp.toNatClampNeg dp.toNatClampNeg n.toNatClampNeg)))) hρ⟩
              simp only [hmm', zHcp, zvS, List.map_cons, zv, h8, if_pos hc, ha0', ha1', if_pos h4, zvE]
            · cases hz
          · cases hz
        · cases hz
      · cases hz
end ZV2
