/-! THE SMALL MACHINE: instructions that touch no heap: what they make of place, locals and stack -/
abbrev zF : Type := Nat × zL × List Value
def zN (n len pc : Nat) (L : zL) (st : List Value) : Option zF := if len = n then some (pc + n, L, st) else none
def zJ (pc : Nat) (off : Int) (L : zL) (st : List Value) : Option zF := if 0 ≤ (pc : Int) + off then some (((pc : Int) + off).toNat, L, st) else none
def zkI (v : Value) : Bool := match v with | .int _ => true | _ => false
def zkL (v : Value) : Bool := match v with | .long _ => true | _ => false
def zkA (v : Value) : Bool := match v with | .ref _ => true | .null => true | _ => false
def zld (n len pc : Nat) (L : zL) (st : List Value) (i : Nat) (k : Value → Bool) : Option zF := match zget L i with
  | some v => if k v then zN n len pc L (v :: st) else none
  | none => none
def zs1 (nL n len pc : Nat) (L : zL) (st : List Value) (i : Nat) (k : Value → Bool) : Option zF := match st with
  | v :: r => if k v && decide (i < nL) then zN n len pc (zst1 L i v) r else none
  | [] => none
def zs2 (nL n len pc : Nat) (L : zL) (st : List Value) (i : Nat) : Option zF := match st with
  | .long x :: r => if i + 1 < nL then zN n len pc (zst2 L i (.long x)) r else none
  | _ => none
def zinc (nL len pc : Nat) (L : zL) (st : List Value) (i : Nat) (n : Int) : Option zF := match zget L i with
  | some (.int x) => if i < nL then zN 3 len pc (zst1 L i (.int (x + Int32.ofInt n))) st else none
  | _ => none
def zII (len pc : Nat) (L : zL) (st : List Value) (f : Int32 → Int32 → Int32) : Option zF := match st with
  | .int y :: .int x :: r => zN 1 len pc L (.int (f x y) :: r)
  | _ => none
def zID (len pc : Nat) (L : zL) (st : List Value) (f : Int32 → Int32 → Int32) : Option zF := match st with
  | .int y :: .int x :: r => if y = 0 then none else zN 1 len pc L (.int (f x y) :: r)
  | _ => none
def zI1 (len pc : Nat) (L : zL) (st : List Value) (f : Int32 → Value) : Option zF := match st with
  | .int x :: r => zN 1 len pc L (f x :: r)
  | _ => none
def zLL (len pc : Nat) (L : zL) (st : List Value) (f : Int64 → Int64 → Value) : Option zF := match st with
  | .long y :: .long x :: r => zN 1 len pc L (f x y :: r)
  | _ => none
def zLD (len pc : Nat) (L : zL) (st : List Value) (f : Int64 → Int64 → Value) : Option zF := match st with
  | .long y :: .long x :: r => if y = 0 then none else zN 1 len pc L (f x y :: r)
  | _ => none
def zLI (len pc : Nat) (L : zL) (st : List Value) (f : Int64 → Int32 → Int64) : Option zF := match st with
  | .int y :: .long x :: r => zN 1 len pc L (.long (f x y) :: r)
  | _ => none
def zL1 (len pc : Nat) (L : zL) (st : List Value) (f : Int64 → Value) : Option zF := match st with
  | .long x :: r => zN 1 len pc L (f x :: r)
  | _ => none
def zdup (len pc : Nat) (L : zL) (st : List Value) : Option zF := match st with
  | v :: r => if v.category = 1 then zN 1 len pc L (v :: v :: r) else none
  | [] => none
def zpop (len pc : Nat) (L : zL) (st : List Value) : Option zF := match st with
  | v :: r => if v.category = 1 then zN 1 len pc L r else none
  | [] => none
def zdup2 (len pc : Nat) (L : zL) (st : List Value) : Option zF := match st with
  | v :: u :: r => if v.category = 1 ∧ u.category = 1 then zN 1 len pc L (v :: u :: v :: u :: r) else if v.category = 2 then zN 1 len pc L (v :: v :: u :: r) else none
  | [v] => if v.category = 2 then zN 1 len pc L [v, v] else none
  | [] => none
def zcc (c : Jvm.ClassFile.Cond) (x y : Int32) : Bool := match c with
  | .eq => decide (x = y)
  | .ne => decide (¬ x = y)
  | .lt => decide (x < y)
  | .ge => decide (y ≤ x)
  | .gt => decide (y < x)
  | .le => decide (x ≤ y)
def zbr (len pc : Nat) (L : zL) (r : List Value) (off : Int) (t : Bool) : Option zF := if len = 3 ∧ 0 ≤ (pc : Int) + off then (if t then some (((pc : Int) + off).toNat, L, r) else some (pc + 3, L, r)) else none
def zif (len pc : Nat) (L : zL) (st : List Value) (c : Jvm.ClassFile.Cond) (off : Int) : Option zF := match st with
  | .int x :: r => zbr len pc L r off (zcc c x 0)
  | _ => none
def zic (len pc : Nat) (L : zL) (st : List Value) (c : Jvm.ClassFile.Cond) (off : Int) : Option zF := match st with
  | .int y :: .int x :: r => zbr len pc L r off (zcc c x y)
  | _ => none
def znu (len pc : Nat) (L : zL) (st : List Value) (off : Int) (b : Bool) : Option zF := match st with
  | .null :: r => zbr len pc L r off b
  | .ref _ :: r => zbr len pc L r off (!b)
  | _ => none
def zts (pc : Nat) (L : zL) (st : List Value) (d lo hi : Int) (offs : Array Int) : Option zF := match st with
  | .int x :: r => if x.toInt < lo ∨ hi < x.toInt then zJ pc d L r else match offs[(x.toInt - lo).toNat]? with
    | some off => zJ pc off L r
    | none => none
  | _ => none
def zls (pc : Nat) (L : zL) (st : List Value) (d : Int) (ps : Array (Int × Int)) : Option zF := match st with
  | .int x :: r => if (ps.toList.zip (ps.toList.drop 1)).all (fun (a, next) => a.1 < next.1) = true then zJ pc (Op.lookupswitch.offset ps.toList d x.toInt) L r else none
  | _ => none
def zA (nL : Nat) (i : Instr) (len pc : Nat) (L : zL) (st : List Value) : Option zF := match i with
  | .aconst_null => zN 1 len pc L (.null :: st)
  | .iconst n => zN 1 len pc L (.int (Int32.ofInt n) :: st)
  | .bipush n => zN 2 len pc L (.int (Int8.ofInt n).toInt32 :: st)
  | .sipush n => zN 3 len pc L (.int (Int16.ofInt n).toInt32 :: st)
  | .lconst n => zN 1 len pc L (.long (Int64.ofNat (n : Nat)) :: st)
  | .iload_n k => zld 1 len pc L st (k : Nat) zkI
  | .iload k => zld 2 len pc L st k zkI
  | .lload_n k => zld 1 len pc L st (k : Nat) zkL
  | .lload k => zld 2 len pc L st k zkL
  | .aload_n k => zld 1 len pc L st (k : Nat) zkA
  | .aload k => zld 2 len pc L st k zkA
  | .istore_n k => zs1 nL 1 len pc L st (k : Nat) zkI
  | .istore k => zs1 nL 2 len pc L st k zkI
  | .astore_n k => zs1 nL 1 len pc L st (k : Nat) zkA
  | .astore k => zs1 nL 2 len pc L st k zkA
  | .lstore_n k => zs2 nL 1 len pc L st (k : Nat)
  | .lstore k => zs2 nL 2 len pc L st k
  | .iinc k n => zinc nL len pc L st k n
  | .iadd => zII len pc L st (fun x y => x + y)
  | .isub => zII len pc L st (fun x y => x - y)
  | .imul => zII len pc L st (fun x y => x * y)
  | .iand => zII len pc L st (fun x y => x &&& y)
  | .ior => zII len pc L st (fun x y => x ||| y)
  | .ixor => zII len pc L st (fun x y => x ^^^ y)
  | .ishl => zII len pc L st (fun x y => x <<< (y &&& 31))
  | .ishr => zII len pc L st (fun x y => x >>> (y &&& 31))
  | .iushr => zII len pc L st (fun x y => (x.toUInt32 >>> (y.toUInt32 &&& Int32.toUInt32 31)).toInt32)
  | .idiv => zID len pc L st (fun x y => x / y)
  | .irem => zID len pc L st (fun x y => x - x / y * y)
  | .ineg => zI1 len pc L st (fun x => .int (-x))
  | .i2l => zI1 len pc L st (fun x => .long x.toInt64)
  | .ladd => zLL len pc L st (fun x y => .long (x + y))
  | .lsub => zLL len pc L st (fun x y => .long (x - y))
  | .lmul => zLL len pc L st (fun x y => .long (x * y))
  | .land => zLL len pc L st (fun x y => .long (x &&& y))
  | .lor => zLL len pc L st (fun x y => .long (x ||| y))
  | .lxor => zLL len pc L st (fun x y => .long (x ^^^ y))
  | .lcmp => zLL len pc L st (fun x y => .int (lg_cmp x y))
  | .ldiv => zLD len pc L st (fun x y => .long (x / y))
  | .lrem => zLD len pc L st (fun x y => .long (x - x / y * y))
  | .lneg => zL1 len pc L st (fun x => .long (-x))
  | .l2i => zL1 len pc L st (fun x => .int x.toInt32)
  | .lshl => zLI len pc L st (fun x y => x <<< (y.toInt64 &&& 63))
  | .lshr => zLI len pc L st (fun x y => x >>> (y.toInt64 &&& 63))
  | .lushr => zLI len pc L st (fun x y => (x.toUInt64 >>> (y.toInt64.toUInt64 &&& Int64.toUInt64 63)).toInt64)
  | .dup => zdup len pc L st
  | .pop => zpop len pc L st
  | .dup2 => zdup2 len pc L st
  | .ifCond c off => zif len pc L st c off
  | .if_icmp c off => zic len pc L st c off
  | .ifnull off => znu len pc L st off true
  | .ifnonnull off => znu len pc L st off false
  | .goto off => if len = 3 then zJ pc off L st else none
  | .tableswitch d lo hi offs => zts pc L st d lo hi offs
  | .lookupswitch d ps => zls pc L st d ps
  | _ => none
theorem zN_inv {n len pc : Nat} {L L' : zL} {st st' : List Value} {pc' : Nat} (h : zN n len pc L st = some (pc', L', st')) : len = n ∧ pc + n = pc' ∧ L = L' ∧ st = st' := by
  unfold zN at h
  split at h
  · rename_i e
    simp only [Option.some.injEq, Prod.mk.injEq] at h
    exact ⟨e, h⟩
  · cases h
theorem zJ_inv {pc : Nat} {off : Int} {L L' : zL} {st st' : List Value} {pc' : Nat} (h : zJ pc off L st = some (pc', L', st')) : (pc : Int) + off = (pc' : Int) ∧ L = L' ∧ st = st' := by
  unfold zJ at h
  split at h
  · rename_i e
    simp only [Option.some.injEq, Prod.mk.injEq] at h
    refine ⟨?_, h.2⟩
    rw [← h.1]
    omega
  · cases h
theorem zbr_inv {len pc : Nat} {off : Int} {t : Bool} {L L' : zL} {st st' : List Value} {pc' : Nat} (h : zbr len pc L st off t = some (pc', L', st')) : len = 3 ∧ L = L' ∧ st = st' ∧ ∃ tgt : Nat, (pc : Int) + off = (tgt : Int) ∧ ((t = true ∧ tgt = pc') ∨ (t = false ∧ pc + 3 = pc')) := by
  unfold zbr at h
  split at h
  · rename_i e
    cases t with
    | true =>
      simp only [if_true, Option.some.injEq, Prod.mk.injEq] at h
      exact ⟨e.1, h.2.1, h.2.2, ((pc : Int) + off).toNat, by omega, Or.inl ⟨rfl, h.1⟩⟩
    | false =>
      simp only [Bool.false_eq_true, if_false, Option.some.injEq, Prod.mk.injEq] at h
      exact ⟨e.1, h.2.1, h.2.2, ((pc : Int) + off).toNat, by omega, Or.inr ⟨rfl, h.1⟩⟩
  · cases h
theorem zII_inv {len pc : Nat} {L L' : zL} {st st' : List Value} {pc' : Nat} {f : Int32 → Int32 → Int32} (h : zII len pc L st f = some (pc', L', st')) : ∃ x y r, st = .int y :: .int x :: r ∧ len = 1 ∧ pc + 1 = pc' ∧ L = L' ∧ .int (f x y) :: r = st' := by
  unfold zII at h
  split at h
  · exact ⟨_, _, _, rfl, zN_inv h⟩
  · cases h
theorem zID_inv {len pc : Nat} {L L' : zL} {st st' : List Value} {pc' : Nat} {f : Int32 → Int32 → Int32} (h : zID len pc L st f = some (pc', L', st')) : ∃ x y r, st = .int y :: .int x :: r ∧ ¬ y = 0 ∧ len = 1 ∧ pc + 1 = pc' ∧ L = L' ∧ .int (f x y) :: r = st' := by
  unfold zID at h
  split at h
  · split at h
    · cases h
    · exact ⟨_, _, _, rfl, by assumption, zN_inv h⟩
  · cases h
theorem zI1_inv {len pc : Nat} {L L' : zL} {st st' : List Value} {pc' : Nat} {f : Int32 → Value} (h : zI1 len pc L st f = some (pc', L', st')) : ∃ x r, st = .int x :: r ∧ len = 1 ∧ pc + 1 = pc' ∧ L = L' ∧ f x :: r = st' := by
  unfold zI1 at h
  split at h
  · exact ⟨_, _, rfl, zN_inv h⟩
  · cases h
theorem zLL_inv {len pc : Nat} {L L' : zL} {st st' : List Value} {pc' : Nat} {f : Int64 → Int64 → Value} (h : zLL len pc L st f = some (pc', L', st')) : ∃ x y r, st = .long y :: .long x :: r ∧ len = 1 ∧ pc + 1 = pc' ∧ L = L' ∧ f x y :: r = st' := by
  unfold zLL at h
  split at h
  · exact ⟨_, _, _, rfl, zN_inv h⟩
  · cases h
theorem zLD_inv {len pc : Nat} {L L' : zL} {st st' : List Value} {pc' : Nat} {f : Int64 → Int64 → Value} (h : zLD len pc L st f = some (pc', L', st')) : ∃ x y r, st = .long y :: .long x :: r ∧ ¬ y = 0 ∧ len = 1 ∧ pc + 1 = pc' ∧ L = L' ∧ f x y :: r = st' := by
  unfold zLD at h
  split at h
  · split at h
    · cases h
    · exact ⟨_, _, _, rfl, by assumption, zN_inv h⟩
  · cases h
theorem zLI_inv {len pc : Nat} {L L' : zL} {st st' : List Value} {pc' : Nat} {f : Int64 → Int32 → Int64} (h : zLI len pc L st f = some (pc', L', st')) : ∃ x y r, st = .int y :: .long x :: r ∧ len = 1 ∧ pc + 1 = pc' ∧ L = L' ∧ .long (f x y) :: r = st' := by
  unfold zLI at h
  split at h
  · exact ⟨_, _, _, rfl, zN_inv h⟩
  · cases h
theorem zL1_inv {len pc : Nat} {L L' : zL} {st st' : List Value} {pc' : Nat} {f : Int64 → Value} (h : zL1 len pc L st f = some (pc', L', st')) : ∃ x r, st = .long x :: r ∧ len = 1 ∧ pc + 1 = pc' ∧ L = L' ∧ f x :: r = st' := by
  unfold zL1 at h
  split at h
  · exact ⟨_, _, rfl, zN_inv h⟩
  · cases h
theorem zld_inv {n len pc : Nat} {L L' : zL} {st st' : List Value} {pc' i : Nat} {k : Value → Bool} (h : zld n len pc L st i k = some (pc', L', st')) : ∃ v, zget L i = some v ∧ k v = true ∧ len = n ∧ pc + n = pc' ∧ L = L' ∧ v :: st = st' := by
  unfold zld at h
  split at h
  · split at h
    · exact ⟨_, by assumption, by assumption, zN_inv h⟩
    · cases h
  · cases h
theorem zs1_inv {nL n len pc : Nat} {L L' : zL} {st st' : List Value} {pc' i : Nat} {k : Value → Bool} (h : zs1 nL n len pc L st i k = some (pc', L', st')) : ∃ v, st = v :: st' ∧ k v = true ∧ i < nL ∧ len = n ∧ pc + n = pc' ∧ zst1 L i v = L' := by
  unfold zs1 at h
  split at h
  · split at h
    · rename_i e
      simp only [Bool.and_eq_true, decide_eq_true_eq] at e
      obtain ⟨h1, h2, h3, rfl⟩ := zN_inv h
      exact ⟨_, rfl, e.1, e.2, h1, h2, h3⟩
    · cases h
  · cases h
theorem zs2_inv {nL n len pc : Nat} {L L' : zL} {st st' : List Value} {pc' i : Nat} (h : zs2 nL n len pc L st i = some (pc', L', st')) : ∃ x, st = .long x :: st' ∧ i + 1 < nL ∧ len = n ∧ pc + n = pc' ∧ zst2 L i (.long x) = L' := by
  unfold zs2 at h
  split at h
  · split at h
    · obtain ⟨h1, h2, h3, rfl⟩ := zN_inv h
      exact ⟨_, rfl, by assumption, h1, h2, h3⟩
    · cases h
  · cases h
theorem zinc_inv {nL len pc : Nat} {L L' : zL} {st st' : List Value} {pc' i : Nat} {n : Int} (h : zinc nL len pc L st i n = some (pc', L', st')) : ∃ x, zget L i = some (.int x) ∧ i < nL ∧ len = 3 ∧ pc + 3 = pc' ∧ zst1 L i (.int (x + Int32.ofInt n)) = L' ∧ st = st' := by
  unfold zinc at h
  split at h
  · split at h
    · exact ⟨_, by assumption, by assumption, zN_inv h⟩
    · cases h
  · cases h
theorem zkI_inv {v : Value} (h : zkI v = true) : ∃ x, v = .int x := by
  cases v <;> first | exact ⟨_, rfl⟩ | cases h
theorem zkL_inv {v : Value} (h : zkL v = true) : ∃ x, v = .long x := by
  cases v <;> first | exact ⟨_, rfl⟩ | cases h
theorem zkA_inv {v : Value} (h : zkA v = true) : v = .null ∨ ∃ x, v = .ref x := by
  cases v <;> first | exact Or.inr ⟨_, rfl⟩ | exact Or.inl rfl | cases h
theorem zas_has {L : zL} {i : Nat} {v : Value} (h : zget L i = some v) : ∃ k : Nat, (zas 0 L)[k]? = some (i, v) := List.mem_iff_getElem?.mp (zas_mem0.mpr h)
section ZA
variable {p : Program} {l : Launch} {e : Env} {R : Room} {s : State} {m : MethodId} {args : Array Value} {below : List Frame} {meth : Method} {c : Code} {H : Heap} {locs : List Loc} {cells slots : Nat} {Q : State → Prop}
variable {cc : ByteArray} {pc len nL : Nat} {ls : Array Slot} {L L' : zL} {st st' : List Value} {pc' : Nat}
theorem zif_ok {q : Jvm.ClassFile.Cond} {off : Int} (hx : p.tables.exec = Jvm.exec) (hb : c.code = cc) (hz : zif len pc L st q off = some (pc', L', st')) (hd : decode cc pc = .ok (.ifCond q off, len)) (hl : zR ls nL L) (kk : ∀ ls' : Array Slot, zR ls' nL L' → W p l e R s m args below meth c H locs cells slots Q (F0 m pc' ls' st')) : W p l e R s m args below meth c H locs cells slots Q (F0 m pc ls st) := by
  unfold zif at hz
  split at hz
  · rename_i x r
    obtain ⟨rfl, rfl, rfl, tgt, ht, h⟩ := zbr_inv hz
    cases q <;> simp only [zcc, decide_eq_true_eq, decide_eq_false_iff_not, Decidable.not_not] at h
    · rcases h with ⟨h1, rfl⟩ | ⟨h1, rfl⟩
      · exact lv_if_eq hx hb hd ht (fun _ => kk ls hl) (fun n => absurd h1 n)
      · exact lv_if_eq hx hb hd ht (fun n => absurd n h1) (fun _ => kk ls hl)
    · rcases h with ⟨h1, rfl⟩ | ⟨h1, rfl⟩
      · exact lv_if_ne hx hb hd ht (fun _ => kk ls hl) (fun n => absurd n h1)
      · exact lv_if_ne hx hb hd ht (fun n => absurd h1 n) (fun _ => kk ls hl)
    · rcases h with ⟨h1, rfl⟩ | ⟨h1, rfl⟩
      · exact lv_if_lt hx hb hd ht (fun _ => kk ls hl) (fun n => absurd h1 n)
      · exact lv_if_lt hx hb hd ht (fun n => absurd n h1) (fun _ => kk ls hl)
    · rcases h with ⟨h1, rfl⟩ | ⟨h1, rfl⟩
      · exact lv_if_ge hx hb hd ht (fun _ => kk ls hl) (fun n => absurd h1 n)
      · exact lv_if_ge hx hb hd ht (fun n => absurd n h1) (fun _ => kk ls hl)
    · rcases h with ⟨h1, rfl⟩ | ⟨h1, rfl⟩
      · exact lv_if_gt hx hb hd ht (fun _ => kk ls hl) (fun n => absurd h1 n)
      · exact lv_if_gt hx hb hd ht (fun n => absurd n h1) (fun _ => kk ls hl)
    · rcases h with ⟨h1, rfl⟩ | ⟨h1, rfl⟩
      · exact lv_if_le hx hb hd ht (fun _ => kk ls hl) (fun n => absurd h1 n)
      · exact lv_if_le hx hb hd ht (fun n => absurd n h1) (fun _ => kk ls hl)
  · cases hz
theorem zic_ok {q : Jvm.ClassFile.Cond} {off : Int} (hx : p.tables.exec = Jvm.exec) (hb : c.code = cc) (hz : zic len pc L st q off = some (pc', L', st')) (hd : decode cc pc = .ok (.if_icmp q off, len)) (hl : zR ls nL L) (kk : ∀ ls' : Array Slot, zR ls' nL L' → W p l e R s m args below meth c H locs cells slots Q (F0 m pc' ls' st')) : W p l e R s m args below meth c H locs cells slots Q (F0 m pc ls st) := by
  unfold zic at hz
  split at hz
  · rename_i y x r
    obtain ⟨rfl, rfl, rfl, tgt, ht, h⟩ := zbr_inv hz
    cases q <;> simp only [zcc, decide_eq_true_eq, decide_eq_false_iff_not, Decidable.not_not] at h
    · rcases h with ⟨h1, rfl⟩ | ⟨h1, rfl⟩
      · exact lv_icmp_eq hx hb hd ht (fun _ => kk ls hl) (fun n => absurd h1 n)
      · exact lv_icmp_eq hx hb hd ht (fun n => absurd n h1) (fun _ => kk ls hl)
    · rcases h with ⟨h1, rfl⟩ | ⟨h1, rfl⟩
      · exact lv_icmp_ne hx hb hd ht (fun _ => kk ls hl) (fun n => absurd n h1)
      · exact lv_icmp_ne hx hb hd ht (fun n => absurd h1 n) (fun _ => kk ls hl)
    · rcases h with ⟨h1, rfl⟩ | ⟨h1, rfl⟩
      · exact lv_icmp_lt hx hb hd ht (fun _ => kk ls hl) (fun n => absurd h1 n)
      · exact lv_icmp_lt hx hb hd ht (fun n => absurd n h1) (fun _ => kk ls hl)
    · rcases h with ⟨h1, rfl⟩ | ⟨h1, rfl⟩
      · exact lv_icmp_ge hx hb hd ht (fun _ => kk ls hl) (fun n => absurd h1 n)
      · exact lv_icmp_ge hx hb hd ht (fun n => absurd n h1) (fun _ => kk ls hl)
    · rcases h with ⟨h1, rfl⟩ | ⟨h1, rfl⟩
      · exact lv_icmp_gt hx hb hd ht (fun _ => kk ls hl) (fun n => absurd h1 n)
      · exact lv_icmp_gt hx hb hd ht (fun n => absurd n h1) (fun _ => kk ls hl)
    · rcases h with ⟨h1, rfl⟩ | ⟨h1, rfl⟩
      · exact lv_icmp_le hx hb hd ht (fun _ => kk ls hl) (fun n => absurd h1 n)
      · exact lv_icmp_le hx hb hd ht (fun n => absurd n h1) (fun _ => kk ls hl)
  · cases hz
theorem znu_ok {off : Int} (hx : p.tables.exec = Jvm.exec) (hb : c.code = cc) (hz : znu len pc L st off true = some (pc', L', st')) (hd : decode cc pc = .ok (.ifnull off, len)) (hl : zR ls nL L) (kk : ∀ ls' : Array Slot, zR ls' nL L' → W p l e R s m args below meth c H locs cells slots Q (F0 m pc' ls' st')) : W p l e R s m args below meth c H locs cells slots Q (F0 m pc ls st) := by
  unfold znu at hz
  split at hz
  · obtain ⟨rfl, rfl, rfl, tgt, ht, h⟩ := zbr_inv hz
    rcases h with ⟨-, rfl⟩ | ⟨h, -⟩
    · exact lv_ifnullN hx hb hd ht (kk ls hl)
    · cases h
  · obtain ⟨rfl, rfl, rfl, tgt, ht, h⟩ := zbr_inv hz
    rcases h with ⟨h, -⟩ | ⟨-, rfl⟩
    · cases h
    · exact lv_ifnull hx hb hd (kk ls hl)
  · cases hz
theorem znn_ok {off : Int} (hx : p.tables.exec = Jvm.exec) (hb : c.code = cc) (hz : znu len pc L st off false = some (pc', L', st')) (hd : decode cc pc = .ok (.ifnonnull off, len)) (hl : zR ls nL L) (kk : ∀ ls' : Array Slot, zR ls' nL L' → W p l e R s m args below meth c H locs cells slots Q (F0 m pc' ls' st')) : W p l e R s m args below meth c H locs cells slots Q (F0 m pc ls st) := by
  unfold znu at hz
  split at hz
  · obtain ⟨rfl, rfl, rfl, tgt, ht, h⟩ := zbr_inv hz
    rcases h with ⟨h, -⟩ | ⟨-, rfl⟩
    · cases h
    · exact lv_ifnonnullN hx hb hd (kk ls hl)
  · obtain ⟨rfl, rfl, rfl, tgt, ht, h⟩ := zbr_inv hz
    rcases h with ⟨-, rfl⟩ | ⟨h, -⟩
    · exact lv_ifnonnull hx hb hd ht (kk ls hl)
    · cases h
  · cases hz
theorem zts_ok {d lo hi : Int} {offs : Array Int} (hx : p.tables.exec = Jvm.exec) (hb : c.code = cc) (hz : zts pc L st d lo hi offs = some (pc', L', st')) (hd : decode cc pc = .ok (.tableswitch d lo hi offs, len)) (hl : zR ls nL L) (kk : ∀ ls' : Array Slot, zR ls' nL L' → W p l e R s m args below meth c H locs cells slots Q (F0 m pc' ls' st')) : W p l e R s m args below meth c H locs cells slots Q (F0 m pc ls st) := by
  unfold zts at hz
  split at hz
  · split at hz
    · obtain ⟨ht, rfl, rfl⟩ := zJ_inv hz
      exact lv_tableOut hx hb hd (by assumption) ht (kk ls hl)
    · rename_i hn
      split at hz
      · obtain ⟨ht, rfl, rfl⟩ := zJ_inv hz
        exact lv_tableIn hx hb hd (fun z => hn (Or.inl z)) (fun z => hn (Or.inr z)) (by assumption) ht (kk ls hl)
      · cases hz
  · cases hz
theorem zls_ok {d : Int} {ps : Array (Int × Int)} (hx : p.tables.exec = Jvm.exec) (hb : c.code = cc) (hz : zls pc L st d ps = some (pc', L', st')) (hd : decode cc pc = .ok (.lookupswitch d ps, len)) (hl : zR ls nL L) (kk : ∀ ls' : Array Slot, zR ls' nL L' → W p l e R s m args below meth c H locs cells slots Q (F0 m pc' ls' st')) : W p l e R s m args below meth c H locs cells slots Q (F0 m pc ls st) := by
  unfold zls at hz
  split at hz
  · split at hz
    · obtain ⟨ht, rfl, rfl⟩ := zJ_inv hz
      exact lv_lookup hx hb hd (by assumption) rfl ht (kk ls hl)
    · cases hz
  · cases hz
theorem zdup2_ok  (hx : p.tables.exec = Jvm.exec) (hb : c.code = cc) (hz : zdup2 len pc L st = some (pc', L', st')) (hd : decode cc pc = .ok (.dup2, len)) (hl : zR ls nL L) (kk : ∀ ls' : Array Slot, zR ls' nL L' → W p l e R s m args below meth c H locs cells slots Q (F0 m pc' ls' st')) : W p l e R s m args below meth c H locs cells slots Q (F0 m pc ls st) := by
  unfold zdup2 at hz
  split at hz
  · split at hz
    · rename_i h
      obtain ⟨rfl, rfl, rfl, rfl⟩ := zN_inv hz
      exact lv_dup2_11 hx hb hd h.1 h.2 (kk ls hl)
    · split at hz
      · rename_i h
        obtain ⟨rfl, rfl, rfl, rfl⟩ := zN_inv hz
        exact lv_dup2_2 hx hb hd h (kk ls hl)
      · cases hz
  · split at hz
    · rename_i h
      obtain ⟨rfl, rfl, rfl, rfl⟩ := zN_inv hz
      exact lv_dup2_2 hx hb hd h (kk ls hl)
    · cases hz
  · cases hz
theorem zdup_ok  (hx : p.tables.exec = Jvm.exec) (hb : c.code = cc) (hz : zdup len pc L st = some (pc', L', st')) (hd : decode cc pc = .ok (.dup, len)) (hl : zR ls nL L) (kk : ∀ ls' : Array Slot, zR ls' nL L' → W p l e R s m args below meth c H locs cells slots Q (F0 m pc' ls' st')) : W p l e R s m args below meth c H locs cells slots Q (F0 m pc ls st) := by
  unfold zdup at hz
  split at hz
  · split at hz
    · rename_i h
      obtain ⟨rfl, rfl, rfl, rfl⟩ := zN_inv hz
      exact lv_dup hx hb hd h (kk ls hl)
    · cases hz
  · cases hz
theorem zpop_ok  (hx : p.tables.exec = Jvm.exec) (hb : c.code = cc) (hz : zpop len pc L st = some (pc', L', st')) (hd : decode cc pc = .ok (.pop, len)) (hl : zR ls nL L) (kk : ∀ ls' : Array Slot, zR ls' nL L' → W p l e R s m args below meth c H locs cells slots Q (F0 m pc' ls' st')) : W p l e R s m args below meth c H locs cells slots Q (F0 m pc ls st) := by
  unfold zpop at hz
  split at hz
  · split at hz
    · rename_i h
      obtain ⟨rfl, rfl, rfl, rfl⟩ := zN_inv hz
      exact lv_pop hx hb hd h (kk ls hl)
    · cases hz
  · cases hz
theorem zA_ok {i : Instr} (hx : p.tables.exec = Jvm.exec) (hb : c.code = cc) (hz : zA nL i len pc L st = some (pc', L', st')) (hd : decode cc pc = .ok (i, len)) (hl : zR ls nL L) (kk : ∀ ls' : Array Slot, zR ls' nL L' → W p l e R s m args below meth c H locs cells slots Q (F0 m pc' ls' st')) : W p l e R s m args below meth c H locs cells slots Q (F0 m pc ls st) := by
  cases i <;> simp only [zA, reduceCtorEq] at hz
  case aconst_null => obtain ⟨rfl, rfl, rfl, rfl⟩ := zN_inv hz; exact lv_null hx hb hd (kk ls hl)
  case iconst n => obtain ⟨rfl, rfl, rfl, rfl⟩ := zN_inv hz; exact lv_iconst hx hb hd rfl (kk ls hl)
  case bipush n => obtain ⟨rfl, rfl, rfl, rfl⟩ := zN_inv hz; exact lv_bipush hx hb hd rfl (kk ls hl)
  case sipush n => obtain ⟨rfl, rfl, rfl, rfl⟩ := zN_inv hz; exact lv_sipush hx hb hd rfl (kk ls hl)
  case lconst n => obtain ⟨rfl, rfl, rfl, rfl⟩ := zN_inv hz; exact lv_lconst hx hb hd rfl (kk ls hl)
  case iload_n k => obtain ⟨v, h1, h2, rfl, rfl, rfl, rfl⟩ := zld_inv hz; obtain ⟨x, rfl⟩ := zkI_inv h2; exact lv_iload_n hx hb hd rfl (hl.get h1) (kk ls hl)
  case iload k => obtain ⟨v, h1, h2, rfl, rfl, rfl, rfl⟩ := zld_inv hz; obtain ⟨x, rfl⟩ := zkI_inv h2; exact lv_iload hx hb hd (hl.get h1) (kk ls hl)
  case lload_n k => obtain ⟨v, h1, h2, rfl, rfl, rfl, rfl⟩ := zld_inv hz; obtain ⟨x, rfl⟩ := zkL_inv h2; exact lv_lload_n hx hb hd rfl (hl.get h1) (kk ls hl)
  case lload k => obtain ⟨v, h1, h2, rfl, rfl, rfl, rfl⟩ := zld_inv hz; obtain ⟨x, rfl⟩ := zkL_inv h2; exact lv_lload hx hb hd (hl.get h1) (kk ls hl)
  case aload_n k => obtain ⟨v, h1, h2, rfl, rfl, rfl, rfl⟩ := zld_inv hz; rcases zkA_inv h2 with rfl | ⟨x, rfl⟩; exact lv_aload_nN hx hb hd rfl (hl.get h1) (kk ls hl); exact lv_aload_n hx hb hd rfl (hl.get h1) (kk ls hl)
  case aload k => obtain ⟨v, h1, h2, rfl, rfl, rfl, rfl⟩ := zld_inv hz; rcases zkA_inv h2 with rfl | ⟨x, rfl⟩; exact lv_aloadN hx hb hd (hl.get h1) (kk ls hl); exact lv_aload hx hb hd (hl.get h1) (kk ls hl)
  case istore_n k => obtain ⟨v, rfl, h2, h3, rfl, rfl, rfl⟩ := zs1_inv hz; obtain ⟨x, rfl⟩ := zkI_inv h2; exact lv_istore_n hx hb hd rfl hl h3 rfl (fun ls' h => kk ls' (zR.st1 h))
  case istore k => obtain ⟨v, rfl, h2, h3, rfl, rfl, rfl⟩ := zs1_inv hz; obtain ⟨x, rfl⟩ := zkI_inv h2; exact lv_istore hx hb hd hl h3 rfl (fun ls' h => kk ls' (zR.st1 h))
  case astore_n k => obtain ⟨v, rfl, h2, h3, rfl, rfl, rfl⟩ := zs1_inv hz; rcases zkA_inv h2 with rfl | ⟨x, rfl⟩; exact lv_astore_nN hx hb hd rfl hl h3 rfl (fun ls' h => kk ls' (zR.st1 h)); exact lv_astore_n hx hb hd rfl hl h3 rfl (fun ls' h => kk ls' (zR.st1 h))
  case astore k => obtain ⟨v, rfl, h2, h3, rfl, rfl, rfl⟩ := zs1_inv hz; rcases zkA_inv h2 with rfl | ⟨x, rfl⟩; exact lv_astoreN hx hb hd hl h3 rfl (fun ls' h => kk ls' (zR.st1 h)); exact lv_astore hx hb hd hl h3 rfl (fun ls' h => kk ls' (zR.st1 h))
  case lstore_n k => obtain ⟨x, rfl, h3, rfl, rfl, rfl⟩ := zs2_inv hz; exact lv_lstore_n hx hb hd rfl hl h3 rfl (fun ls' h => kk ls' (zR.st2 h))
  case lstore k => obtain ⟨x, rfl, h3, rfl, rfl, rfl⟩ := zs2_inv hz; exact lv_lstore hx hb hd hl h3 rfl (fun ls' h => kk ls' (zR.st2 h))
  case iinc k n => obtain ⟨x, h1, h3, rfl, rfl, rfl, rfl⟩ := zinc_inv hz; obtain ⟨j, hj⟩ := zas_has h1; exact lv_iinc hx hb hd hl hj rfl h3 rfl (fun ls' h => kk ls' (zR.st1 h))
  case iadd => obtain ⟨x, y, r, rfl, rfl, rfl, rfl, rfl⟩ := zII_inv hz; exact lv_iadd hx hb hd (kk ls hl)
  case isub => obtain ⟨x, y, r, rfl, rfl, rfl, rfl, rfl⟩ := zII_inv hz; exact lv_isub hx hb hd (kk ls hl)
  case imul => obtain ⟨x, y, r, rfl, rfl, rfl, rfl, rfl⟩ := zII_inv hz; exact lv_imul hx hb hd (kk ls hl)
  case iand => obtain ⟨x, y, r, rfl, rfl, rfl, rfl, rfl⟩ := zII_inv hz; exact lv_iand hx hb hd (kk ls hl)
  case ior => obtain ⟨x, y, r, rfl, rfl, rfl, rfl, rfl⟩ := zII_inv hz; exact lv_ior hx hb hd (kk ls hl)
  case ixor => obtain ⟨x, y, r, rfl, rfl, rfl, rfl, rfl⟩ := zII_inv hz; exact lv_ixor hx hb hd (kk ls hl)
  case ishl => obtain ⟨x, y, r, rfl, rfl, rfl, rfl, rfl⟩ := zII_inv hz; exact lv_ishl hx hb hd (kk ls hl)
  case ishr => obtain ⟨x, y, r, rfl, rfl, rfl, rfl, rfl⟩ := zII_inv hz; exact lv_ishr hx hb hd (kk ls hl)
  case iushr => obtain ⟨x, y, r, rfl, rfl, rfl, rfl, rfl⟩ := zII_inv hz; exact lv_iushr hx hb hd rfl (kk ls hl)
  case idiv => obtain ⟨x, y, r, rfl, h0, rfl, rfl, rfl, rfl⟩ := zID_inv hz; exact lv_idiv hx hb hd h0 (kk ls hl)
  case irem => obtain ⟨x, y, r, rfl, h0, rfl, rfl, rfl, rfl⟩ := zID_inv hz; exact lv_irem hx hb hd h0 (kk ls hl)
  case ineg => obtain ⟨x, r, rfl, rfl, rfl, rfl, rfl⟩ := zI1_inv hz; exact lv_ineg hx hb hd (kk ls hl)
  case i2l => obtain ⟨x, r, rfl, rfl, rfl, rfl, rfl⟩ := zI1_inv hz; exact lv_i2l hx hb hd rfl (kk ls hl)
  case ladd => obtain ⟨x, y, r, rfl, rfl, rfl, rfl, rfl⟩ := zLL_inv hz; exact lv_ladd hx hb hd (kk ls hl)
  case lsub => obtain ⟨x, y, r, rfl, rfl, rfl, rfl, rfl⟩ := zLL_inv hz; exact lv_lsub hx hb hd (kk ls hl)
  case lmul => obtain ⟨x, y, r, rfl, rfl, rfl, rfl, rfl⟩ := zLL_inv hz; exact lv_lmul hx hb hd (kk ls hl)
  case land => obtain ⟨x, y, r, rfl, rfl, rfl, rfl, rfl⟩ := zLL_inv hz; exact lv_land hx hb hd (kk ls hl)
  case lor => obtain ⟨x, y, r, rfl, rfl, rfl, rfl, rfl⟩ := zLL_inv hz; exact lv_lor hx hb hd (kk ls hl)
  case lxor => obtain ⟨x, y, r, rfl, rfl, rfl, rfl, rfl⟩ := zLL_inv hz; exact lv_lxor hx hb hd (kk ls hl)
  case lcmp => obtain ⟨x, y, r, rfl, rfl, rfl, rfl, rfl⟩ := zLL_inv hz; exact W.lcmp hx hb hd (kk ls hl)
  case ldiv => obtain ⟨x, y, r, rfl, h0, rfl, rfl, rfl, rfl⟩ := zLD_inv hz; exact lv_ldiv hx hb hd h0 (kk ls hl)
  case lrem => obtain ⟨x, y, r, rfl, h0, rfl, rfl, rfl, rfl⟩ := zLD_inv hz; exact lv_lrem hx hb hd h0 (kk ls hl)
  case lneg => obtain ⟨x, r, rfl, rfl, rfl, rfl, rfl⟩ := zL1_inv hz; exact lv_lneg hx hb hd (kk ls hl)
  case l2i => obtain ⟨x, r, rfl, rfl, rfl, rfl, rfl⟩ := zL1_inv hz; exact lv_l2i hx hb hd rfl (kk ls hl)
  case lshl => obtain ⟨x, y, r, rfl, rfl, rfl, rfl, rfl⟩ := zLI_inv hz; exact lv_lshl hx hb hd rfl (kk ls hl)
  case lshr => obtain ⟨x, y, r, rfl, rfl, rfl, rfl, rfl⟩ := zLI_inv hz; exact lv_lshr hx hb hd rfl (kk ls hl)
  case lushr => obtain ⟨x, y, r, rfl, rfl, rfl, rfl, rfl⟩ := zLI_inv hz; exact lv_lushr hx hb hd rfl (kk ls hl)
  case dup => exact zdup_ok hx hb hz hd hl kk
  case pop => exact zpop_ok hx hb hz hd hl kk
  case dup2 => exact zdup2_ok hx hb hz hd hl kk
  case ifCond c off => exact zif_ok hx hb hz hd hl kk
  case if_icmp c off => exact zic_ok hx hb hz hd hl kk
  case ifnull off => exact znu_ok hx hb hz hd hl kk
  case ifnonnull off => exact znn_ok hx hb hz hd hl kk
  case goto off => split at hz; rename_i h3; subst h3; obtain ⟨ht, rfl, rfl⟩ := zJ_inv hz; exact lv_goto hx hb hd ht (kk ls hl); cases hz
  case tableswitch d lo hi offs => exact zts_ok hx hb hz hd hl kk
  case lookupswitch d ps => exact zls_ok hx hb hz hd hl kk
end ZA
