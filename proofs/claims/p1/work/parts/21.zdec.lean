def zdb : List (ByteArray × List (Nat × Instr × Nat)) := zdb_0 ++ (zdb_1 ++ (zdb_2 ++ (zdb_3 ++ (zdb_4 ++ (zdb_5 ++ (zdb_6 ++ (zdb_7)))))))
theorem zdb_ok : ∀ q ∈ zdb, q.2.all (fun e => decide (decode q.1 e.1 = .ok e.2)) = true := by
  intro q hq
  simp only [zdb, List.mem_append] at hq
  rcases hq with h | h | h | h | h | h | h | h
  · exact zdk_0 q h
  · exact zdk_1 q h
  · exact zdk_2 q h
  · exact zdk_3 q h
  · exact zdk_4 q h
  · exact zdk_5 q h
  · exact zdk_6 q h
  · exact zdk_7 q h
set_option maxRecDepth 100000 in
theorem zdb_map : zMt.map (fun M => M.2.1) = zdb.map (fun q => q.1) := rfl
def zdec (mi pc : Nat) : Option (Instr × Nat) := match zdb[mi]? with
  | some q => q.2.lookup pc
  | none => none
theorem zlookup {α β : Type} [BEq α] [LawfulBEq α] {a : α} {x : β} : ∀ {l : List (α × β)}, l.lookup a = some x → (a, x) ∈ l
  | [], h => by cases h
  | (b, y) :: l, h => by
    rw [List.lookup_cons] at h
    split at h
    · rename_i hb
      simp only [beq_iff_eq] at hb
      subst hb
      cases h
      exact List.mem_cons_self
    · exact List.mem_cons_of_mem _ (zlookup h)
theorem zdec_ok {mi pc : Nat} {M : zMe} {x : Instr × Nat} (hM : zMt[mi]? = some M) (h : zdec mi pc = some x) : decode M.2.1 pc = .ok x := by
  unfold zdec at h
  split at h
  · rename_i q hq
    have h1 : (zMt.map (fun M => M.2.1))[mi]? = some M.2.1 := by rw [List.getElem?_map, hM]; rfl
    have h2 : (zdb.map (fun q => q.1))[mi]? = some q.1 := by rw [List.getElem?_map, hq]; rfl
    rw [zdb_map, h2] at h1
    have hb : q.1 = M.2.1 := Option.some.inj h1
    have h3 := List.all_eq_true.mp (zdb_ok q (List.mem_of_getElem? hq)) _ (zlookup h)
    rw [← hb]
    exact of_decide_eq_true h3
  · cases h
/-- the same run, by the tables -/
def zrunT : Nat → Nat → Nat → Nat → zL → List Value → zW → Option (Option Value × zW)
  | 0, _, _, _, _, _, _ => none
  | f + 1, d, mi, pc, L, st, w => match zMt[mi]? with
    | none => none
    | some (_, _, mL, ret, o, ini) => match zdec mi pc with
      | none => none
      | some (i, len) => match zend ret i len st with
        | some r => some (r, w)
        | none => match zA mL i len pc L st with
          | some (pc', L', st') => zrunT f d mi pc' L' st' w
          | none => match zH o ini d i len pc st w with
            | some (pc', st', w') => zrunT f d mi pc' L st' w'
            | none => match zcall o i len st w with
              | none => none
              | some (mj, as, r) => match d with
                | 0 => none
                | d' + 1 => match zMt[mj]? with
                  | none => none
                  | some (_, _, mL', _, _, _) => if (zen as).length ≤ mL' then (match zrunT f d' mj 0 (zin mL' as) [] w with
                    | none => none
                    | some (v, w1) => zrunT f (d' + 1) mi (pc + 3) L (v.toList ++ r) w1) else none
theorem zrunT_ok : ∀ (f d mi pc : Nat) (L : zL) (st : List Value) (w : zW) (x : Option Value × zW), zrunT f d mi pc L st w = some x → zrun f d mi pc L st w = some x
  | 0, d, mi, pc, L, st, w, x, h => by simp [zrunT] at h
  | f + 1, d, mi, pc, L, st, w, x, h => by
    unfold zrunT at h
    unfold zrun
    cases hM : zMt[mi]? with
    | none => rw [hM] at h; cases h
    | some M =>
      obtain ⟨y, b, mL, ret, o, ini⟩ := M
      rw [hM] at h
      dsimp only at h ⊢
      cases hd : zdec mi pc with
      | none => rw [hd] at h; cases h
      | some il =>
        obtain ⟨i, len⟩ := il
        rw [hd] at h
        rw [zdec_ok hM hd]
        dsimp only at h ⊢
        cases he : zend ret i len st with
        | some r' => rw [he] at h; exact h
        | none =>
          rw [he] at h
          dsimp only at h ⊢
          cases hA : zA mL i len pc L st with
          | some x =>
            obtain ⟨pc', L', st'⟩ := x
            rw [hA] at h
            exact zrunT_ok f _ _ _ _ _ _ _ h
          | none =>
            rw [hA] at h
            dsimp only at h ⊢
            cases hH : zH o ini d i len pc st w with
            | some x =>
              obtain ⟨pc', st', w2⟩ := x
              rw [hH] at h
              exact zrunT_ok f _ _ _ _ _ _ _ h
            | none =>
              rw [hH] at h
              dsimp only at h ⊢
              cases hc : zcall o i len st w with
              | none => rw [hc] at h; cases h
              | some x =>
                obtain ⟨mj, as, rr⟩ := x
                rw [hc] at h
                dsimp only at h ⊢
                cases d with
                | zero => cases h
                | succ d' =>
                  dsimp only at h ⊢
                  cases hM' : zMt[mj]? with
                  | none => rw [hM'] at h; cases h
                  | some M' =>
                    obtain ⟨y', b', mL', ret', o', ini'⟩ := M'
                    rw [hM'] at h
                    dsimp only at h ⊢
                    split at h
                    · rename_i hen
                      rw [if_pos hen]
                      cases hr : zrunT f d' mj 0 (zin mL' as) [] w with
                      | none => rw [hr] at h; cases h
                      | some x =>
                        obtain ⟨v, w2⟩ := x
                        rw [hr] at h
                        rw [zrunT_ok f _ _ _ _ _ _ _ hr]
                        exact zrunT_ok f _ _ _ _ _ _ _ h
                    · cases h
