/-! runs don't depend on where the cells lie: the same run with other addresses -/
def zv (ρ : Nat → Nat) (v : Value) : Value := match v with
  | .ref a => .ref (ρ a)
  | v => v
def zvE (ρ : Nat → Nat) (e : va_E) : va_E := match e with
  | .inl (k, N, .inr (.inr (.inr (.inr f)))) => .inl (k, N, .inr (.inr (.inr (.inr (fun i => (f i).map ρ)))))
  | .inr (ci, fs) => .inr (ci, fs.map (zv ρ))
  | e => e
def zvL (ρ : Nat → Nat) (L : zL) : zL := L.map (Option.map (zv ρ))
def zvS (ρ : Nat → Nat) (st : List Value) : List Value := st.map (zv ρ)
/-- W is w at other addresses, laid over B -/
def zsim (ρ : Nat → Nat) (B : Nat → Option va_E) (w W : zW) : Prop := W.2.1 = ρ w.2.1 ∧ W.2.2 = w.2.2 ∧ 1 ≤ w.2.1 ∧ (∀ a e, w.1 a = some e → W.1 (ρ a) = some (zvE ρ e)) ∧ ∀ q, (∀ a e, w.1 a = some e → ρ a ≠ q) → W.1 q = B q
section ZV
variable {ρ : Nat → Nat}
theorem zv_cat (v : Value) : (zv ρ v).category = v.category := by cases v <;> rfl
theorem zvL_get (L : zL) (i : Nat) : zget (zvL ρ L) i = (zget L i).map (zv ρ) := by
  unfold zget zvL
  rw [List.getElem?_map]
  cases L[i]? with
  | none => rfl
  | some x => cases x <;> rfl
theorem zvL_set (L : zL) (i : Nat) (x : Option Value) : (zvL ρ L).set i (x.map (zv ρ)) = zvL ρ (L.set i x) := by
  unfold zvL
  rw [List.map_set]
theorem zvL_cut (L : zL) (i : Nat) : zcut (zvL ρ L) i = zvL ρ (zcut L i) := by
  cases i with
  | zero => rfl
  | succ j =>
    simp only [zcut, zvL_get]
    cases zget L j with
    | none => rfl
    | some v =>
      simp only [Option.map_some, zv_cat]
      split
      · exact zvL_set L j none
      · rfl
theorem zvL_st1 (L : zL) (i : Nat) (v : Value) : zst1 (zvL ρ L) i (zv ρ v) = zvL ρ (zst1 L i v) := by
  unfold zst1
  rw [zvL_cut]
  exact zvL_set _ i (some v)
theorem zvL_st2 (L : zL) (i : Nat) (v : Value) : zst2 (zvL ρ L) i (zv ρ v) = zvL ρ (zst2 L i v) := by
  unfold zst2
  rw [zvL_cut]
  rw [show (zvL ρ (zcut L i)).set i (some (zv ρ v)) = zvL ρ ((zcut L i).set i (some v)) from zvL_set _ i (some v)]
  exact zvL_set _ (i + 1) none
theorem zkI_v (v : Value) : zkI (zv ρ v) = zkI v := by cases v <;> rfl
theorem zkL_v (v : Value) : zkL (zv ρ v) = zkL v := by cases v <;> rfl
theorem zkA_v (v : Value) : zkA (zv ρ v) = zkA v := by cases v <;> rfl
theorem zN_self {n pc : Nat} {L : zL} {st : List Value} : zN n n pc L st = some (pc + n, L, st) := by simp [zN]
theorem zld_v {n pc i : Nat} {L : zL} {st : List Value} {v : Value} {k : Value → Bool} (hk : ∀ v, k (zv ρ v) = k v) (h1 : zget L i = some v) (h2 : k v = true) : zld n n pc (zvL ρ L) (zvS ρ st) i k = some (pc + n, zvL ρ L, zvS ρ (v :: st)) := by
  simp only [zld, zvL_get, h1, Option.map_some, hk, h2, if_true, zN_self]
  rfl
theorem zs1_v {nL n pc i : Nat} {L : zL} {st : List Value} {v : Value} {k : Value → Bool} (hk : ∀ v, k (zv ρ v) = k v) (h2 : k v = true) (h3 : i < nL) : zs1 nL n n pc (zvL ρ L) (zvS ρ (v :: st)) i k = some (pc + n, zvL ρ (zst1 L i v), zvS ρ st) := by
  simp only [zs1, zvS, List.map_cons, hk, h2, h3, decide_true, Bool.and_self, if_true, zN_self, zvL_st1]
theorem zbr_v {pc : Nat} {L L' : zL} {r r' : List Value} {off : Int} {t : Bool} {pc' : Nat} (h : zbr 3 pc L r off t = some (pc', L', r')) : zbr 3 pc (zvL ρ L) (zvS ρ r) off t = some (pc', zvL ρ L', zvS ρ r') := by
  unfold zbr at h ⊢
  split at h
  · rename_i hc
    rw [if_pos hc]
    split at h
    · rename_i ht
      rw [if_pos ht]
      simp only [Option.some.injEq, Prod.mk.injEq] at h ⊢
      obtain ⟨rfl, rfl, rfl⟩ := h
      exact ⟨rfl, rfl, rfl⟩
    · rename_i ht
      rw [if_neg ht]
      simp only [Option.some.injEq, Prod.mk.injEq] at h ⊢
      obtain ⟨rfl, rfl, rfl⟩ := h
      exact ⟨rfl, rfl, rfl⟩
  · cases h
theorem zJ_v {pc : Nat} {L L' : zL} {r r' : List Value} {off : Int} {pc' : Nat} (h : zJ pc off L r = some (pc', L', r')) : zJ pc off (zvL ρ L) (zvS ρ r) = some (pc', zvL ρ L', zvS ρ r') := by
  unfold zJ at h ⊢
  split at h
  · rename_i hc
    rw [if_pos hc]
    simp only [Option.some.injEq, Prod.mk.injEq] at h ⊢
    obtain ⟨rfl, rfl, rfl⟩ := h
    exact ⟨rfl, rfl, rfl⟩
  · cases h
theorem zA_v {nL len pc pc' : Nat} {i : Instr} {L L' : zL} {st st' : List Value} (hz : zA nL i len pc L st = some (pc', L', st')) : zA nL i len pc (zvL ρ L) (zvS ρ st) = some (pc', zvL ρ L', zvS ρ st') := by
  cases i <;> simp only [zA, reduceCtorEq] at hz ⊢
  case aconst_null => obtain ⟨rfl, rfl, rfl, rfl⟩ := zN_inv hz; exact zN_self
  case iconst n => obtain ⟨rfl, rfl, rfl, rfl⟩ := zN_inv hz; exact zN_self
  case bipush n => obtain ⟨rfl, rfl, rfl, rfl⟩ := zN_inv hz; exact zN_self
  case sipush n => obtain ⟨rfl, rfl, rfl, rfl⟩ := zN_inv hz; exact zN_self
  case lconst n => obtain ⟨rfl, rfl, rfl, rfl⟩ := zN_inv hz; exact zN_self
  case iload_n k => obtain ⟨v, h1, h2, rfl, rfl, rfl, rfl⟩ := zld_inv hz; exact zld_v zkI_v h1 h2
  case iload k => obtain ⟨v, h1, h2, rfl, rfl, rfl, rfl⟩ := zld_inv hz; exact zld_v zkI_v h1 h2
  case lload_n k => obtain ⟨v, h1, h2, rfl, rfl, rfl, rfl⟩ := zld_inv hz; exact zld_v zkL_v h1 h2
  case lload k => obtain ⟨v, h1, h2, rfl, rfl, rfl, rfl⟩ := zld_inv hz; exact zld_v zkL_v h1 h2
  case aload_n k => obtain ⟨v, h1, h2, rfl, rfl, rfl, rfl⟩ := zld_inv hz; exact zld_v zkA_v h1 h2
  case aload k => obtain ⟨v, h1, h2, rfl, rfl, rfl, rfl⟩ := zld_inv hz; exact zld_v zkA_v h1 h2
  case istore_n k => obtain ⟨v, rfl, h2, h3, rfl, rfl, rfl⟩ := zs1_inv hz; exact zs1_v zkI_v h2 h3
  case istore k => obtain ⟨v, rfl, h2, h3, rfl, rfl, rfl⟩ := zs1_inv hz; exact zs1_v zkI_v h2 h3
  case astore_n k => obtain ⟨v, rfl, h2, h3, rfl, rfl, rfl⟩ := zs1_inv hz; exact zs1_v zkA_v h2 h3
  case astore k => obtain ⟨v, rfl, h2, h3, rfl, rfl, rfl⟩ := zs1_inv hz; exact zs1_v zkA_v h2 h3
  case lstore_n k => obtain ⟨x, rfl, h3, rfl, rfl, rfl⟩ := zs2_inv hz; simp only [zs2, zvS, List.map_cons, zv, h3, if_true, zN_self]; rw [← zvL_st2]; rfl
  case lstore k => obtain ⟨x, rfl, h3, rfl, rfl, rfl⟩ := zs2_inv hz; simp only [zs2, zvS, List.map_cons, zv, h3, if_true, zN_self]; rw [← zvL_st2]; rfl
  case iinc k n => obtain ⟨x, h1, h3, rfl, rfl, rfl, rfl⟩ := zinc_inv hz; simp only [zinc, zvL_get, h1, Option.map_some, zv, h3, if_true, zN_self]; rw [← zvL_st1]; rfl
  case iadd => obtain ⟨x, y, r, rfl, rfl, rfl, rfl, rfl⟩ := zII_inv hz; exact zN_self
  case isub => obtain ⟨x, y, r, rfl, rfl, rfl, rfl, rfl⟩ := zII_inv hz; exact zN_self
  case imul => obtain ⟨x, y, r, rfl, rfl, rfl, rfl, rfl⟩ := zII_inv hz; exact zN_self
  case iand => obtain ⟨x, y, r, rfl, rfl, rfl, rfl, rfl⟩ := zII_inv hz; exact zN_self
  case ior => obtain ⟨x, y, r, rfl, rfl, rfl, rfl, rfl⟩ := zII_inv hz; exact zN_self
  case ixor => obtain ⟨x, y, r, rfl, rfl, rfl, rfl, rfl⟩ := zII_inv hz; exact zN_self
  case ishl => obtain ⟨x, y, r, rfl, rfl, rfl, rfl, rfl⟩ := zII_inv hz; exact zN_self
  case ishr => obtain ⟨x, y, r, rfl, rfl, rfl, rfl, rfl⟩ := zII_inv hz; exact zN_self
  case iushr => obtain ⟨x, y, r, rfl, rfl, rfl, rfl, rfl⟩ := zII_inv hz; exact zN_self
  case idiv => obtain ⟨x, y, r, rfl, h0, rfl, rfl, rfl, rfl⟩ := zID_inv hz; simp only [zID, zvS, List.map_cons, zv, if_neg h0, zN_self]
  case irem => obtain ⟨x, y, r, rfl, h0, rfl, rfl, rfl, rfl⟩ := zID_inv hz; simp only [zID, zvS, List.map_cons, zv, if_neg h0, zN_self]
  case ineg => obtain ⟨x, r, rfl, rfl, rfl, rfl, rfl⟩ := zI1_inv hz; exact zN_self
  case i2l => obtain ⟨x, r, rfl, rfl, rfl, rfl, rfl⟩ := zI1_inv hz; exact zN_self
  case ladd => obtain ⟨x, y, r, rfl, rfl, rfl, rfl, rfl⟩ := zLL_inv hz; exact zN_self
  case lsub => obtain ⟨x, y, r, rfl, rfl, rfl, rfl, rfl⟩ := zLL_inv hz; exact zN_self
  case lmul => obtain ⟨x, y, r, rfl, rfl, rfl, rfl, rfl⟩ := zLL_inv hz; exact zN_self
  case land => obtain ⟨x, y, r, rfl, rfl, rfl, rfl, rfl⟩ := zLL_inv hz; exact zN_self
  case lor => obtain ⟨x, y, r, rfl, rfl, rfl, rfl, rfl⟩ := zLL_inv hz; exact zN_self
  case lxor => obtain ⟨x, y, r, rfl, rfl, rfl, rfl, rfl⟩ := zLL_inv hz; exact zN_self
  case lcmp => obtain ⟨x, y, r, rfl, rfl, rfl, rfl, rfl⟩ := zLL_inv hz; exact zN_self
  case ldiv => obtain ⟨x, y, r, rfl, h0, rfl, rfl, rfl, rfl⟩ := zLD_inv hz; simp only [zLD, zvS, List.map_cons, zv, if_neg h0, zN_self]
  case lrem => obtain ⟨x, y, r, rfl, h0, rfl, rfl, rfl, rfl⟩ := zLD_inv hz; simp only [zLD, zvS, List.map_cons, zv, if_neg h0, zN_self]
  case lneg => obtain ⟨x, r, rfl, rfl, rfl, rfl, rfl⟩ := zL1_inv hz; exact zN_self
  case l2i => obtain ⟨x, r, rfl, rfl, rfl, rfl, rfl⟩ := zL1_inv hz; exact zN_self
  case lshl => obtain ⟨x, y, r, rfl, rfl, rfl, rfl, rfl⟩ := zLI_inv hz; exact zN_self
  case lshr => obtain ⟨x, y, r, rfl, rfl, rfl, rfl, rfl⟩ := zLI_inv hz; exact zN_self
  case lushr => obtain ⟨x, y, r, rfl, rfl, rfl, rfl, rfl⟩ := zLI_inv hz; exact zN_self
  case dup =>
    unfold zdup at hz
    split at hz
    · split at hz
      · rename_i h
        obtain ⟨rfl, rfl, rfl, rfl⟩ := zN_inv hz
        simp only [zdup, zvS, List.map_cons, zv_cat, h, if_true, zN_self]
      · cases hz
    · cases hz
  case pop =>
    unfold zpop at hz
    split at hz
    · split at hz
      · rename_i h
        obtain ⟨rfl, rfl, rfl, rfl⟩ := zN_inv hz
        simp only [zpop, zvS, List.map_cons, zv_cat, h, if_true, zN_self]
      · cases hz
    · cases hz
  case dup2 =>
    unfold zdup2 at hz
    split at hz
    · split at hz
      · rename_i h
        obtain ⟨rfl, rfl, rfl, rfl⟩ := zN_inv hz
        simp only [zdup2, zvS, List.map_cons, zv_cat, h, and_self, if_true, zN_self]
      · rename_i h
        split at hz
        · rename_i h2
          obtain ⟨rfl, rfl, rfl, rfl⟩ := zN_inv hz
          simp only [zdup2, zvS, List.map_cons, zv_cat, h2, if_true, zN_self]; simp
        · cases hz
    · split at hz
      · rename_i h
        obtain ⟨rfl, rfl, rfl, rfl⟩ := zN_inv hz
        simp only [zdup2, zvS, List.map_cons, List.map_nil, zv_cat, h, if_true, zN_self]
      · cases hz
    · cases hz
  case ifCond c off =>
    unfold zif at hz
    split at hz
    · obtain ⟨rfl, -⟩ := zbr_inv hz
      exact zbr_v hz
    · cases hz
  case if_icmp c off =>
    unfold zic at hz
    split at hz
    · obtain ⟨rfl, -⟩ := zbr_inv hz
      exact zbr_v hz
    · cases hz
  case ifnull off =>
    unfold znu at hz
    split at hz
    · obtain ⟨rfl, -⟩ := zbr_inv hz
      exact zbr_v hz
    · obtain ⟨rfl, -⟩ := zbr_inv hz
      exact zbr_v hz
    · cases hz
  case ifnonnull off =>
    unfold znu at hz
    split at hz
    · obtain ⟨rfl, -⟩ := zbr_inv hz
      exact zbr_v hz
    · obtain ⟨rfl, -⟩ := zbr_inv hz
      exact zbr_v hz
    · cases hz
  case goto off =>
    split at hz
    · rename_i h
      rw [if_pos h]
      exact zJ_v hz
    · cases hz
  case tableswitch d lo hi offs =>
    unfold zts at hz
    split at hz
    · simp only [zts, zvS, List.map_cons, zv]
      split at hz
      · rename_i h
        rw [if_pos h]
        exact zJ_v hz
      · rename_i h
        rw [if_neg h]
        split at hz
        · rename_i h2
          exact zJ_v hz
        · cases hz
    · cases hz
  case lookupswitch d ps =>
    unfold zls at hz
    split at hz
    · simp only [zls, zvS, List.map_cons, zv]
      split at hz
      · rename_i h
        rw [if_pos h]
        exact zJ_v hz
      · cases hz
    · cases hz
theorem zend_v {ret : Option FieldType} {i : Instr} {len : Nat} {st : List Value} {r : Option Value} (h : zend ret i len st = some r) : zend ret i len (zvS ρ st) = some (r.map (zv ρ)) := by
  cases i <;> simp only [zend, reduceCtorEq] at h ⊢
  all_goals (split at h <;> first | (cases h; done) | (split at h <;> first | (cases h; done) | (rename_i hc; simp only [Option.some.injEq] at h; subst h; simp only [zvS, List.map_cons, List.map_nil, zv, hc, if_true, and_self, or_true, true_or, true_and, Option.map_some, Option.map_none]; try simp [hc])))
end ZV
/-- an instruction is of one kind alone -/
theorem zA_ex {nL len pc : Nat} {i : Instr} {L : zL} {st : List Value} {x : zF} (h : zA nL i len pc L st = some x) : ∀ (ret : Option FieldType) (len' : Nat) (st' : List Value), zend ret i len' st' = none := by
  intro ret len' st'
  cases i <;> simp only [zA, reduceCtorEq] at h <;> rfl
theorem zH_ex {o d len pc : Nat} {ini : Bool} {i : Instr} {st : List Value} {w : zW} {x : zG} (h : zH o ini d i len pc st w = some x) : (∀ (ret : Option FieldType) (len' : Nat) (st' : List Value), zend ret i len' st' = none) ∧ ∀ (nL len' pc' : Nat) (L : zL) (st' : List Value), zA nL i len' pc' L st' = none := by
  cases i <;> simp only [zH, reduceCtorEq] at h <;> exact ⟨fun _ _ _ => rfl, fun _ _ _ _ _ => rfl⟩
theorem zcall_ex {o len : Nat} {i : Instr} {st : List Value} {w : zW} {x : Nat × List Value × List Value} (h : zcall o i len st w = some x) : (∀ (ret : Option FieldType) (len' : Nat) (st' : List Value), zend ret i len' st' = none) ∧ (∀ (nL len' pc' : Nat) (L : zL) (st' : List Value), zA nL i len' pc' L st' = none) ∧ ∀ (ini : Bool) (d len' pc' : Nat) (st' : List Value) (w' : zW), zH o ini d i len' pc' st' w' = none := by
  cases i <;> simp only [zcall, reduceCtorEq] at h
  case invokespecial idx =>
    refine ⟨fun _ _ _ => rfl, fun _ _ _ _ _ => rfl, fun ini d len' pc' st' w' => ?_⟩
    simp only [zH, zHob]
    split at h
    · rename_i kd a b c hcl
      split at h
      · rename_i hc
        split
        · rw [if_neg]
          rintro ⟨-, -, -, h4⟩
          rw [hcl] at h4
          simp only [Option.some.injEq, Prod.mk.injEq] at h4
          omega
        · rfl
      · cases h
    · cases h
  case invokestatic idx =>
    refine ⟨fun _ _ _ => rfl, fun _ _ _ _ _ => rfl, fun ini d len' pc' st' w' => ?_⟩
    split at h
    · rename_i kd a b c hcl
      split at h
      · rename_i hc
        obtain ⟨-, rfl, -⟩ := hc
        have h1 : zHmm o d idx len' pc' st' w' = none := by
          simp only [zHmm]
          split
          · split
            · rw [hcl]
              simp
            · rfl
          · rfl
        have h2 : zHcp o d idx len' pc' st' w' = none := by
          simp only [zHcp]
          split
          · rw [if_neg]
            rintro ⟨-, -, -, h4, -⟩
            rw [hcl] at h4
            simp at h4
          · rfl
        simp only [zH, h1, h2]
      · cases h
    · cases h
  case invokevirtual idx => exact ⟨fun _ _ _ => rfl, fun _ _ _ _ _ => rfl, fun _ _ _ _ _ _ => rfl⟩
