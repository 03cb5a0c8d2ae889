/-! the same run with other addresses: calls, and the whole -/
theorem zcall_v {ρ : Nat → Nat} {B : Nat → Option va_E} {w W : zW} {o len mj : Nat} {i : Instr} {st as r : List Value} (hz : zcall o i len st w = some (mj, as, r)) (hw : zsim ρ B w W) : zcall o i len (zvS ρ st) W = some (mj, zvS ρ as, zvS ρ r) := by
  have hr := hw.2.2.2.1
  cases i <;> simp only [zcall, reduceCtorEq] at hz ⊢
  case invokespecial idx =>
    split at hz
    · rename_i kd a mj' n hcl
      split at hz
      · rename_i hc
        split at hz
        · rename_i b rr hdr
          simp only [Option.some.injEq, Prod.mk.injEq] at hz
          obtain ⟨rfl, rfl, rfl⟩ := hz
          have h8 : zsum ((zvS ρ st).drop (n + 1)) ≤ 8 := by
            unfold zvS
            rw [← List.map_drop]
            rw [show List.map (zv ρ) (st.drop (n + 1)) = zvS ρ (st.drop (n + 1)) from rfl, zsum_v]
            exact hc.2.2
          have hd' : (zvS ρ st).drop n = .ref (ρ b) :: zvS ρ rr := by
            unfold zvS
            rw [← List.map_drop, hdr]
            rfl
          rw [if_pos ⟨hc.1, hc.2.1, h8⟩, hd']
          simp only [zvS, List.map_cons, List.map_reverse, List.map_take, zv]
        · cases hz
      · cases hz
    · cases hz
  case invokestatic idx =>
    split at hz
    · rename_i kd a mj' n hcl
      split at hz
      · rename_i hc
        simp only [Option.some.injEq, Prod.mk.injEq] at hz
        obtain ⟨rfl, rfl, rfl⟩ := hz
        have h8 : zsum ((zvS ρ st).drop n) ≤ 8 := by
          unfold zvS
          rw [← List.map_drop]
          rw [show List.map (zv ρ) (st.drop n) = zvS ρ (st.drop n) from rfl, zsum_v]
          exact hc.2.2.2
        have hl : n ≤ (zvS ρ st).length := by unfold zvS; rw [List.length_map]; exact hc.2.2.1
        rw [if_pos ⟨hc.1, hc.2.1, hl, h8⟩]
        simp only [zvS, List.map_reverse, List.map_take, List.map_drop]
      · cases hz
    · cases hz
  case invokevirtual idx =>
    split at hz
    · rename_i kd0 a0 mj0 n hcl0
      split at hz
      · rename_i hc
        split at hz
        · rename_i b rr hdr
          split at hz
          · rename_i ci fs hbo
            split at hz
            · rename_i kd ci' mj' n' hcl
              split at hz
              · rename_i hc2
                simp only [Option.some.injEq, Prod.mk.injEq] at hz
                obtain ⟨rfl, rfl, rfl⟩ := hz
                have h8 : zsum ((zvS ρ st).drop (n + 1)) ≤ 8 := by
                  unfold zvS
                  rw [← List.map_drop]
                  rw [show List.map (zv ρ) (st.drop (n + 1)) = zvS ρ (st.drop (n + 1)) from rfl, zsum_v]
                  exact hc.2
                have hd' : (zvS ρ st).drop n = .ref (ρ b) :: zvS ρ rr := by
                  unfold zvS
                  rw [← List.map_drop, hdr]
                  rfl
                have hbo' := hr b _ hbo
                simp only [zvE] at hbo'
                rw [if_pos ⟨hc.1, h8⟩, hd']
                simp only [hbo', hcl, if_pos hc2]
                simp only [zvS, List.map_cons, List.map_reverse, List.map_take, zv]
              · cases hz
            · cases hz
          · cases hz
        · cases hz
      · cases hz
    · cases hz
theorem zen_v {ρ : Nat → Nat} : ∀ as : List Value, zen (zvS ρ as) = zvL ρ (zen as)
  | [] => rfl
  | v :: as => by
    have ih := zen_v (ρ := ρ) as
    unfold zvS at ih
    simp only [zvS, List.map_cons, zen, zv_cat]
    split
    · simp only [zvL, List.map_cons, Option.map_some, Option.map_none, ih]
    · simp only [zvL, List.map_cons, Option.map_some, ih]
theorem zvL_len {ρ : Nat → Nat} (L : zL) : (zvL ρ L).length = L.length := List.length_map _
theorem zin_v {ρ : Nat → Nat} (mL : Nat) (as : List Value) : zin mL (zvS ρ as) = zvL ρ (zin mL as) := by
  unfold zin
  rw [zen_v, zvL_len]
  unfold zvL
  rw [List.map_append, List.map_replicate]
  rfl
/-- THE SHIFT: the same run, where the cells lie elsewhere -/
theorem zrun_v {ρ : Nat → Nat} {B : Nat → Option va_E} (hρ : ∀ a b, ρ a = ρ b → a = b) (hs : ∀ n, 1 ≤ n → ρ (n + 1) = ρ n + 1) : ∀ (f d mi pc : Nat) (L : zL) (st : List Value) (w W : zW) (r : Option Value) (w1 : zW), zrun f d mi pc L st w = some (r, w1) → zsim ρ B w W → ∃ W1, zrun f d mi pc (zvL ρ L) (zvS ρ st) W = some (r.map (zv ρ), W1) ∧ zsim ρ B w1 W1
  | 0, d, mi, pc, L, st, w, W, r, w1, h, hw => by simp [zrun] at h
  | f + 1, d, mi, pc, L, st, w, W, r, w1, h, hw => by
    unfold zrun at h
    cases hM : zMt[mi]? with
    | none => rw [hM] at h; cases h
    | some M =>
      obtain ⟨y, b, mL, ret, o, ini⟩ := M
      rw [hM] at h
      dsimp only at h
      cases hd : decode b pc with
      | error x => rw [hd] at h; cases h
      | ok x =>
        obtain ⟨i, len⟩ := x
        rw [hd] at h
        dsimp only at h
        cases he : zend ret i len st with
        | some r' =>
          rw [he] at h
          simp only [Option.some.injEq, Prod.mk.injEq] at h
          obtain ⟨rfl, rfl⟩ := h
          exact ⟨W, by simp only [zrun, hM, hd, zend_v he], hw⟩
        | none =>
          rw [he] at h
          dsimp only at h
          cases hA : zA mL i len pc L st with
          | some x =>
            obtain ⟨pc', L', st'⟩ := x
            rw [hA] at h
            dsimp only at h
            obtain ⟨W1, h1, h2⟩ := zrun_v hρ hs f d mi pc' L' st' w W r w1 h hw
            exact ⟨W1, by simp only [zrun, hM, hd, zA_ex hA, zA_v hA, h1], h2⟩
          | none =>
            rw [hA] at h
            dsimp only at h
            cases hH : zH o ini d i len pc st w with
            | some x =>
              obtain ⟨pc', st', w2⟩ := x
              rw [hH] at h
              dsimp only at h
              obtain ⟨W2, g1, g2⟩ := zH_v hρ hs hH hw
              obtain ⟨W1, h1, h2⟩ := zrun_v hρ hs f d mi pc' L st' w2 W2 r w1 h g2
              obtain ⟨e1, e2⟩ := zH_ex hH
              exact ⟨W1, by simp only [zrun, hM, hd, e1, e2, g1, h1], h2⟩
            | none =>
              rw [hH] at h
              dsimp only at h
              cases hc : zcall o i len st w with
              | none => rw [hc] at h; cases h
              | some x =>
                obtain ⟨mj, as, rr⟩ := x
                rw [hc] at h
                dsimp only at h
                obtain ⟨e1, e2, e3⟩ := zcall_ex hc
                cases d with
                | zero => cases h
                | succ d' =>
                  dsimp only at h
                  cases hM' : zMt[mj]? with
                  | none => rw [hM'] at h; cases h
                  | some M' =>
                    obtain ⟨y', b', mL', ret', o', ini'⟩ := M'
                    rw [hM'] at h
                    dsimp only at h
                    split at h
                    · rename_i hen
                      cases hr : zrun f d' mj 0 (zin mL' as) [] w with
                      | none => rw [hr] at h; cases h
                      | some x =>
                        obtain ⟨v, w2⟩ := x
                        rw [hr] at h
                        dsimp only at h
                        obtain ⟨W2, g1, g2⟩ := zrun_v hρ hs f d' mj 0 (zin mL' as) [] w W v w2 hr hw
                        obtain ⟨W1, h1, h2⟩ := zrun_v hρ hs f (d' + 1) mi (pc + 3) L (v.toList ++ rr) w2 W2 r w1 h g2
                        have hen' : (zen (zvS ρ as)).length ≤ mL' := by rw [zen_v, zvL_len]; exact hen
                        have hv : zvS ρ (v.toList ++ rr) = (v.map (zv ρ)).toList ++ zvS ρ rr := by
                          cases v <;> rfl
                        rw [hv] at h1
                        have g1' : zrun f d' mj 0 (zin mL' (zvS ρ as)) [] W = some (v.map (zv ρ), W2) := by rw [zin_v]; exact g1
                        exact ⟨W1, by simp only [zrun, hM, hd, e1, e2, e3, zcall_v hc hw, hM', if_pos hen', g1', h1], h2⟩
                    · cases h
/-- THE OVERLAY: what isn't touched may lie beside -/
def zov (B : Nat → Option va_E) (w : zW) : zW := (fun a => (w.1 a).or (B a), w.2)
theorem zv_id (v : Value) : zv id v = v := by cases v <;> rfl
theorem zvS_id (st : List Value) : zvS id st = st := by
  unfold zvS
  rw [show zv id = id from funext zv_id]
  exact List.map_id _
theorem zvL_id (L : zL) : zvL id L = L := by
  unfold zvL
  rw [show Option.map (zv id) = id from funext (fun x => by cases x <;> simp [zv_id])]
  exact List.map_id _
theorem zvE_id (e : va_E) : zvE id e = e := by
  unfold zvE
  split
  · rename_i k N f
    rw [show (fun i => Option.map id (f i)) = f from funext (fun i => by simp)]
  · rename_i ci fs
    rw [show List.map (zv id) fs = fs from zvS_id fs]
  · rfl
theorem zov_sim {B : Nat → Option va_E} {w : zW} (h : 1 ≤ w.2.1) : zsim id B w (zov B w) := by
  refine ⟨rfl, rfl, h, fun a e he => ?_, fun q hq => ?_⟩
  · rw [zvE_id]
    simp [zov, he]
  · cases hw : w.1 q with
    | none => simp [zov, hw]
    | some e => exact absurd rfl (hq q e hw)
theorem zov_of {B : Nat → Option va_E} {w W : zW} (h : zsim id B w W) : W = zov B w := by
  obtain ⟨h1, h2, h3, h4, h5⟩ := h
  have e1 : W.1 = (zov B w).1 := by
    funext q
    cases hw : w.1 q with
    | none => simp only [zov, hw, Option.none_or]; exact h5 q (fun a e he hq => by subst hq; rw [show id a = a from rfl, he] at hw; cases hw)
    | some e => simp only [zov, hw, Option.some_or]; have := h4 q e hw; rw [zvE_id] at this; exact this
  exact Prod.ext e1 (Prod.ext h1 h2)
theorem zrun_ov {B : Nat → Option va_E} {f d mi pc : Nat} {L : zL} {st : List Value} {w w1 : zW} {r : Option Value} (hn : 1 ≤ w.2.1) (h : zrun f d mi pc L st w = some (r, w1)) : zrun f d mi pc L st (zov B w) = some (r, zov B w1) := by
  obtain ⟨W1, h1, h2⟩ := zrun_v (ρ := id) (B := B) (fun _ _ h => h) (fun _ _ => rfl) f d mi pc L st w (zov B w) r w1 h (zov_sim hn)
  rw [zvL_id, zvS_id, zov_of h2] at h1
  rw [h1]
  cases r <;> simp [zv_id]
theorem zov_up {B : Nat → Option va_E} {h : Nat → Option va_E} {a : Nat} {e : va_E} {q : Nat × Nat} : (va_up (zov B (h, q)).1 a (some e), q) = zov B (va_up h a (some e), q) := by
  unfold zov
  refine Prod.ext ?_ rfl
  funext b
  by_cases hb : b = a
  · subst hb
    simp [va_up]
  · simp [va_up, hb]
