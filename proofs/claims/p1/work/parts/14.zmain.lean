/-! the main theorem of the small machine -/
theorem zrun_le : ∀ (f d mi pc : Nat) (L : zL) (st : List Value) (w : zW) (r : Option Value) (w' : zW), zrun f d mi pc L st w = some (r, w') → zle w w'
  | 0, d, mi, pc, L, st, w, r, w', h => by simp [zrun] at h
  | f + 1, d, mi, pc, L, st, w, r, w', h => by
    unfold zrun at h
    split at h
    · cases h
    · split at h
      · cases h
      · split at h
        · simp only [Option.some.injEq, Prod.mk.injEq] at h
          obtain ⟨-, rfl⟩ := h
          exact zle.refl _
        · split at h
          · exact zrun_le f _ _ _ _ _ _ _ _ h
          · split at h
            · rename_i hz
              exact (zH_le hz).trans (zrun_le f _ _ _ _ _ _ _ _ h)
            · split at h
              · cases h
              · split at h
                · cases h
                · split at h
                  · cases h
                  · split at h
                    · split at h
                      · cases h
                      · rename_i hz
                        exact (zrun_le f _ _ _ _ _ _ _ _ hz).trans (zrun_le f _ _ _ _ _ _ _ _ h)
                    · cases h
/-- from any point of a method's run -/
def zGoal (Y : zY) (z0 : Nat) (l : Launch) (f : Nat) : Prop := ∀ (d mi pc : Nat) (L : zL) (st : List Value) (w : zW) (r : Option Value) (w' : zW) (M : zMe), zMt[mi]? = some M → zrun f d mi pc L st w = some (r, w') →
  ∀ (p : Program) (e : Env) (R : Room) (s : State) (m : MethodId) (args : Array Value) (below : List Frame) (meth : Method) (c : Code) (H : Heap) (locs : List Loc) (cells slots : Nat) (Q : State → Prop) (ls : Array Slot), zCtx p s m args meth c Y z0 M → zw Y z0 s H w → va_S (fun q => z0 ≤ q) s.heap H locs → zR ls M.2.2.1 L → d ≤ R.frames → 60 * d ≤ R.locals → cells + (w'.2.1 - w.2.1) ≤ R.cells → slots + (w'.2.2 - w.2.2) ≤ R.slots →
  (∀ (H1 : Heap) (locs1 : List Loc) (pc1 : Nat) (ls1 : Array Slot) (st1 : List Value) (i : Instr), decode M.2.1 pc1 = .ok (i, 1) → zend M.2.2.2.1 i 1 st1 = some r → zw Y z0 s H1 w' → va_S (fun q => z0 ≤ q) s.heap H1 locs1 → W p l e R s m args below meth c H1 locs1 (cells + (w'.2.1 - w.2.1)) (slots + (w'.2.2 - w.2.2)) Q (F0 m pc1 ls1 st1)) →
  W p l e R s m args below meth c H locs cells slots Q (F0 m pc ls st)
/-- a method as a contract -/
theorem z_met {Y : zY} {z0 : Nat} {l : Launch} {f : Nat} (ih : zGoal Y z0 l f) {d mj : Nat} {as : List Value} {w w1 : zW} {v : Option Value} {M : zMe} (hM : zMt[mj]? = some M) (hlt : mj + 1 < zMt.length) (hen : (zen as).length ≤ M.2.2.1) (hz : zrun f d mj 0 (zin M.2.2.1 as) [] w = some (v, w1)) :
    Met l M.1 (Cond.code M.1 M.2.1 M.2.2.1 M.2.2.2.1 :: zT) { frames := d, cells := w1.2.1 - w.2.1, slots := w1.2.2 - w.2.2, locals := 60 * d } (zPc Y z0 w as) (zQ Y z0 v w1) (w1.2.1 - w.2.1) (w1.2.2 - w.2.2) (fun q => z0 ≤ q) := by
  obtain ⟨f1, f2, f3, f4, f5, f6, f7, f8⟩ := zM_fact hM hlt
  refine Met.ofW (cc := M.2.1) (maxL := M.2.2.1) (ret := M.2.2.2.1) f1 rfl ?_
  intro p e s m args below meth c s₁ B hml hv
  obtain ⟨rfl, hw, hK, h0⟩ := hv
  have hts := atoms_spec (ws := Cond.code M.1 M.2.1 M.2.2.1 M.2.2.2.1 :: zT) B.pre
  have hown : s.vm.findClass M.1.cls = some m.cls := findClass_of_methodNamed B.named
  have hlocks := B.notSynchronized
  have hr := B.returns
  have hS : va_S (fun q => z0 ≤ q) s.heap s.heap [] := va_S.rf
  rw [lg_entry_eq]
  refine ih d mj 0 (zin M.2.2.1 as) [] w v w1 M hM hz p e _ s m _ below meth c s.heap [] 0 0 _ _ ⟨B.exec, B.bytes, hml, hr, hlocks, fun w hw => hts w (List.mem_cons_of_mem _ hw), by rw [← f3]; exact hown, fun hi => by
    rw [(name_of_methodNamed B.named B.method).1]; exact f4 hi, hK, h0⟩ hw hS (zR_entry hen) (Nat.le_refl _) (Nat.le_refl _) (by show 0 + (w1.2.1 - w.2.1) ≤ w1.2.1 - w.2.1; omega) (by show 0 + (w1.2.2 - w.2.2) ≤ w1.2.2 - w.2.2; omega) ?_
  intro H1 locs1 pc1 ls1 st1 i hd hend hw1 hS1
  rw [Nat.zero_add, Nat.zero_add]
  have fin : ∀ t : State, t.heap = H1 → s.WarmedH t.vm → zQ Y z0 v w1 as.toArray s (.returned v) t := fun t ht hW => ⟨rfl, by rw [ht]; exact hw1.moved hW.alike, hS1.F ht⟩
  cases i <;> simp only [zend, reduceCtorEq] at hend
  case ireturn =>
    split at hend
    · rename_i hret
      simp only [if_true, Option.some.injEq] at hend
      subst hend
      exact W.iret B.exec B.bytes (hr.trans hret) fin hS1.2.2 hd
    · rename_i x hret
      split at hend
      · rename_i hc
        simp only [Option.some.injEq] at hend
        subst hend
        refine W.zret B.exec B.bytes (hr.trans hret) ?_ fin hS1.2.2 hd
        rcases hc.2 with rfl | rfl <;> rfl
      · cases hend
    · cases hend
  case lreturn =>
    split at hend
    · rename_i hret
      simp only [if_true, Option.some.injEq] at hend
      subst hend
      exact W.lret B.exec B.bytes (hr.trans hret) fin hS1.2.2 hd
    · cases hend
  case areturn =>
    split at hend
    · rename_i n a hret
      simp only [if_true, Option.some.injEq] at hend
      subst hend
      exact W.aret B.exec B.bytes (hr.trans hret) (Or.inl ⟨_, rfl⟩) (Or.inr ⟨_, rfl⟩) fin hS1.2.2 hd
    · rename_i n hret
      simp only [if_true, Option.some.injEq] at hend
      subst hend
      exact W.aret B.exec B.bytes (hr.trans hret) (Or.inl ⟨_, rfl⟩) (Or.inl rfl) fin hS1.2.2 hd
    · cases hend
  case return_ =>
    split at hend
    · rename_i hret
      simp only [if_true, Option.some.injEq] at hend
      subst hend
      exact W.vret B.exec B.bytes (hr.trans hret) fin hS1.2.2 hd
    · cases hend
theorem z_sound (Y : zY) (z0 : Nat) (l : Launch) : ∀ f, zGoal Y z0 l f
  | 0 => by
    intro d mi pc L st w r w' M hM hz
    simp [zrun] at hz
  | f + 1 => by
    have ih := z_sound Y z0 l f
    intro d mi pc L st w r w' M hM hz p e R s m args below meth c H locs cells slots Q ls C hw hS hl hfr hlo hce hsl hret
    unfold zrun at hz
    rw [hM] at hz
    obtain ⟨y, b, mL, ret, o, ini⟩ := M
    dsimp only at hz
    have hx := C.1
    have hb := C.2.1
    split at hz
    · cases hz
    · rename_i i len hd
      split at hz
      · rename_i r' hend
        simp only [Option.some.injEq, Prod.mk.injEq] at hz
        obtain ⟨rfl, rfl⟩ := hz
        obtain rfl := zend_len hend
        have h := hret H locs pc ls st i hd hend hw hS
        rw [Nat.sub_self, Nat.sub_self] at h
        exact h
      · split at hz
        · rename_i pc' L' st' hA
          exact zA_ok hx hb hA hd hl (fun ls' hl' => ih d mi pc' L' st' w r w' _ hM hz p e R s m args below meth c H locs cells slots Q ls' C hw hS hl' hfr hlo hce hsl hret)
        · split at hz
          · rename_i pc' st' w1 hH
            have h1 := zH_le hH
            have h2 := zrun_le _ _ _ _ _ _ _ _ _ hz
            have hc1 : cells + (w1.2.1 - w.2.1) + (w'.2.1 - w1.2.1) = cells + (w'.2.1 - w.2.1) := by have := h1.1; have := h2.1; omega
            have hc2 : slots + (w1.2.2 - w.2.2) + (w'.2.2 - w1.2.2) = slots + (w'.2.2 - w.2.2) := by have := h1.2; have := h2.2; omega
            refine zH_ok (nL := mL) C hH hd hw hS hl.1 hfr hlo (by omega) (by omega) (fun H1 locs1 hw1 hS1 => ?_)
            refine ih d mi pc' L st' w1 r w' _ hM hz p e R s m args below meth c H1 locs1 _ _ Q ls C hw1 hS1 hl hfr hlo (by omega) (by omega) ?_
            rw [hc1, hc2]
            exact hret
          · split at hz
            · cases hz
            · rename_i mj as rr hcall
              cases d with
              | zero => cases hz
              | succ d' =>
                dsimp only at hz
                split at hz
                · cases hz
                · rename_i mL' _ hM'
                  split at hz
                  · rename_i hen
                    split at hz
                    · cases hz
                    · rename_i v w1 hrun
                      have h1 := zrun_le _ _ _ _ _ _ _ _ _ hrun
                      have h2 := zrun_le _ _ _ _ _ _ _ _ _ hz
                      have hc1 : cells + (w1.2.1 - w.2.1) + (w'.2.1 - w1.2.1) = cells + (w'.2.1 - w.2.1) := by have := h1.1; have := h2.1; omega
                      have hc2 : slots + (w1.2.2 - w.2.2) + (w'.2.2 - w1.2.2) = slots + (w'.2.2 - w.2.2) := by have := h1.2; have := h2.2; omega
                      obtain ⟨rfl, hr⟩ := zcall_run (l := l) (e := e) (R := R) (below := below) (H := H) (locs := locs) (cells := cells) (slots := slots) (pc := pc) (ls := ls) C hcall hd hM' (fun hlt => z_met ih hM' hlt hen hrun) rfl rfl hfr (by show 60 * d' + 60 ≤ _; omega) hw hS hl.1 ⟨by omega, by omega⟩
                      refine z_call hr hS (fun H1 locs1 hw1 hS1 => ?_)
                      refine ih (d' + 1) mi (pc + 3) L (v.toList ++ rr) w1 r w' _ hM hz p e R s m args below meth c H1 locs1 _ _ Q ls C hw1 hS1 hl hfr hlo (by omega) (by omega) ?_
                      rw [hc1, hc2]
                      exact hret
                  · cases hz
