/-! THE CLAIM OUT OF ONE WALK OF THE LAW'S BODY. Your part is whole_start (and what it stands on); all else here is the same for every law, but numbers. -/
def R_law : String := "RigidRanksLaw"
def lw_P (b : Addr) (xs : List Int32) (args : Array Value) (s : State) : Prop := args = #[.ref b] ∧ s.IntsAt b xs ∧ xs.length ≤ 5 ∧ (Jvm.Cond.and given_1 narrow_1).before args s = true
def lw_Q (_ : Array Value) (s : State) (o : Outcome) (t : State) : Prop := o = .returned (some (.int 1)) ∧ Framed s o t [] 600000 7302250
def lw_Z (below : List Frame) (a : Array Value) (s : State) : State → Prop := fun t => ∃ o, t.status = .running ∧ Ended t below o ∧ lw_Q a s o t
/-- the law's own end, with 1 on the stack, nothing written that was there before, its room as the claim has it -/
theorem lw_ret {p : Program} {l : Launch} {e : Env} {s : State} {m : MethodId} {below : List Frame} {meth : Method} {c : Code} {b : Nat} (hx : p.tables.exec = Jvm.exec) (hb : c.code = code) (hr : meth.sig.returnType = ret) (hlocks : meth.locks = false) {pc : Nat} {H : Heap} {ls : Array Slot} (hdg : decode code pc = .ok (.ireturn, 1)) : W p l e room_1 s m #[Value.ref b] below meth c H [] 600000 7302250 (lw_Z below #[Value.ref b] s) (F0 m pc ls [.int 1]) := by
  intro T hT X
  obtain ⟨fs, hret, hrun, hended, hW, hframe⟩ := X.leave (v := some (.int 1)) (hlocks := hlocks) (fun h => by rw [hr] at h; cases h)
  have hmeth' : T.vm.method? m = some meth := X.method'
  refine ⟨T.setFrames fs, ?_, .returned (some (.int 1)), hrun, hended, rfl, ⟨_, rfl⟩, hW, hframe⟩
  jvm_step X.here [X.here.top, hx, hb, hdg, hmeth', hr, ret, narrow_b1]
  (try refine ⟨rfl, ?_⟩); (try refine ⟨rfl, ?_⟩)
  first | (intro acts; rw [hret _ acts rfl rfl rfl]) | rw [hret _ _ rfl rfl rfl]
  exact Steps.refl _
/-- what holds at the law's entry: the machine, the code, the tables' words (any of lw_tbl by 'hts w (by decide +kernel)'), the script of L ints xs at the cell b, what the Statement gives of the start (any of its parts by flat_of_before) -/
def lw_At (p : Program) (s : State) (m : MethodId) (meth : Method) (c : Code) (b L : Nat) (xs : Nat → Int32) : Prop :=
  p.tables.exec = Jvm.exec ∧ c.code = code ∧ meth.sig.returnType = ret ∧ c.maxLocals = 4 ∧ s.vm.findClass R_law = some m.cls ∧ (∀ w ∈ lw_tbl, w.before #[Value.ref b] s = true) ∧ va_X b L xs s s.heap ∧ b < s.heap.size ∧ meth.locks = false ∧ (Jvm.Cond.and given_1 narrow_1).before #[Value.ref b] s = true

/-- the script of L ints xs at address 0, nothing else -/
def z1w (L : Nat) (xs : Nat → Int32) : zW := (fun a => if a = 0 then some (.inl (9, L, .inl xs)) else none, 1, 0)
def z1r (b z0 : Nat) (a : Nat) : Nat := if a = 0 then b else z0 + (a - 1)
theorem z1r_inj {b z0 : Nat} (h : b < z0) : ∀ a a', z1r b z0 a = z1r b z0 a' → a = a' := by
  intro a a' h1
  unfold z1r at h1
  split at h1 <;> split at h1 <;> omega
theorem z1r_succ {b z0 : Nat} : ∀ n, 1 ≤ n → z1r b z0 (n + 1) = z1r b z0 n + 1 := by
  intro n hn
  unfold z1r
  rw [if_neg (by omega), if_neg (by omega)]
  omega
theorem zArr {args : Array Value} {s : State} {ty : FieldType} (hp : ty = .int ∨ ty = .long ∨ ty = .boolean) (h : (Cond.arrayClass ty).before args s = true) : ∃ cA : ClassId, ArrOfT s cA ty ∧ va_RA s cA ty := by
  obtain ⟨c, k, comp, h1, h2, h3⟩ := Cond.arrayClass_spec h
  refine ⟨c, fun n z => ⟨fun k h => (by cases h), k, h2, comp, h3⟩, ?_⟩
  rcases hp with rfl | rfl | rfl <;> exact h1
theorem zArq {args : Array Value} {s : State} {C : String} (h : (Cond.arrayOver (.object C)).before args s = true) : ∃ cA : ClassId, ArrOfT s cA (.object C) ∧ va_RA s cA (.object C) := by
  obtain ⟨comp, c, k, h1, -, h2, h3, h4⟩ := Cond.arrayOver_spec h
  exact ⟨c, fun n z => ⟨fun k h => (by cases h), k, h2, comp, h3⟩, k, comp, h2, h3, h1, h4⟩
theorem zlays_lw {ci : Nat} {C : String} {T : u_T} {N : Nat} (h : vwCl[ci]? = some (C, T, N)) : ∀ w ∈ u_ws C T N, w ∈ zT := zlays_in h
theorem zinst : ∀ ci, ci < 6 → Cond.instantiable (ztab ci).1 (ztab ci).2.2 ∈ zT := by
  have h : (List.range 6).all (fun ci => decide (Cond.instantiable (ztab ci).1 (ztab ci).2.2 ∈ zT)) = true := by decide +kernel
  intro ci hci
  exact of_decide_eq_true (List.all_eq_true.mp h ci (List.mem_range.mpr hci))
theorem zextra : Cond.arrayOver (.object RX2) ∈ lw_tbl ∧ Cond.arrayOver (.object RX5) ∈ lw_tbl ∧ Cond.castable RX0 RX2 ∈ lw_tbl ∧ Cond.castable RX3 RX2 ∈ lw_tbl ∧ Cond.castable RX3 RX3 ∈ lw_tbl ∧ (∀ x ∈ zDecl, Cond.declares x ∈ lw_tbl) ∧ Cond.methodLinkNest RX6 11 yX1_init RX6 ∈ lw_tbl := by decide +kernel
theorem znocast : Cond.not (.castable RX0 RX3) ∈ flatC (Jvm.Cond.and given_1 narrow_1) := by decide +kernel
/-- what the law's entry says of the tables -/
theorem z_tables {p : Program} {s : State} {m : MethodId} {meth : Method} {c : Code} {b L : Nat} {xs : Nat → Int32} (C0 : lw_At p s m meth c b L xs) : ∃ Y : zY, zK Y s := by
  obtain ⟨hx, hb, hr, hml, hown, hts, hX, hbl, hlocks, hgv⟩ := C0
  have hz : ∀ w ∈ zT, w.before #[Value.ref b] s = true := fun w h => lz_hts hts w (zT_in h)
  have hcls : ∀ ci, ∃ q : ClassId × (Nat → Nat), ci < 6 → u_Kn s (ztab ci).1 (ztab ci).2.1 (ztab ci).2.2 q.1 q.2 := by
    intro ci
    by_cases hci : ci < 6
    · obtain ⟨c0, i0, h⟩ := u_known (N := (ztab ci).2.2) hz (zlays_in (ztab_in hci)) (hz _ (zinst ci hci))
      exact ⟨(c0, i0), fun _ => h⟩
    · exact ⟨(0, fun _ => 0), fun h => absurd h hci⟩
  obtain ⟨cI, hI⟩ := zArr (Or.inl rfl) (hz _ zarrc.1)
  obtain ⟨cJ, hJ⟩ := zArr (Or.inr (Or.inl rfl)) (hz _ zarrc.2.1)
  obtain ⟨cZ, hZ⟩ := zArr (Or.inr (Or.inr rfl)) (hz _ zarrc.2.2)
  obtain ⟨e1, e2, e3, e4, e5, e6, e7⟩ := zextra
  obtain ⟨cM, hM⟩ := zArq (hts _ e1)
  obtain ⟨cS, hS⟩ := zArq (hts _ e2)
  refine ⟨((fun ci => (Classical.choose (hcls ci)).1, fun ci => (Classical.choose (hcls ci)).2), fun k => if k = 0 then cI else if k = 1 then cJ else if k = 2 then cZ else if k = 3 then cM else if k = 4 then cS else cI), ⟨fun ci q hq => ?_, fun k q hq => ?_⟩, rfl, va_AO.of (hts _ e1), va_AO.of (hts _ e2), va_Nw.of rfl (hts _ e3), va_Nw.of rfl (hts _ e4), va_Nw.of rfl (hts _ e5), va_Nc.of (flat_of_before _ hgv _ znocast), fun x hx => va_Nw.of rfl (hts _ (e6 x hx)), va_Nw.of rfl (hts _ e7)⟩
  · obtain ⟨hci, rfl⟩ := ztab_ok hq
    exact Classical.choose_spec (hcls ci) hci
  · match k, hq with
    | 0, hq => cases hq; exact hI
    | 1, hq => cases hq; exact hJ
    | 2, hq => cases hq; exact hZ
    | 3, hq => cases hq; exact hM
    | 4, hq => cases hq; exact hS
    | k + 5, hq => simp [ztys] at hq
theorem zMt_law : zMt[169]? = some (yL_law, cL_law, 4, some .boolean, 8, false) := rfl
/-- THE LAW OUT OF A RUN OF THE SMALL MACHINE over the script alone -/
theorem z_law {f d : Nat} {w1 : zW} {p : Program} {e : Env} {s : State} {m : MethodId} {below : List Frame} {meth : Method} {c : Code} (l : Launch) {b L : Nat} {xs : Nat → Int32} (C0 : lw_At p s m meth c b L xs)
    (hz : zrun f d 169 0 (zin 4 [.ref 0]) [] (z1w L xs) = some (some (.int 1), w1)) (hd : d ≤ 1000) (hc : w1.2.1 ≤ 600000) (hsl : w1.2.2 ≤ 7302250) :
    W p l e room_1 s m #[Value.ref b] below meth c s.heap [] 0 0 (lw_Z below #[Value.ref b] s) (entryFrame m ([Value.ref b] : List Value).toArray 4) := by
  obtain ⟨Y, hK⟩ := z_tables C0
  obtain ⟨hx, hb, hr, hml, hown, hts, hX, hbl, hlocks, hgv⟩ := C0
  have hT : ∀ w ∈ zT, w.before #[Value.ref b] s = true := fun w h => lz_hts hts w (zT_in h)
  have hw0 : zsim (z1r b s.heap.size) (fun _ => none) (z1w L xs) (fun a => if a = b then some (.inl (9, L, .inl xs)) else none, s.heap.size, 0) := by
    refine ⟨rfl, rfl, Nat.le_refl _, fun a x hx => ?_, fun q hq => ?_⟩
    · simp only [z1w] at hx
      split at hx
      · rename_i ha
        subst ha
        simp only [Option.some.injEq] at hx
        subst hx
        simp [z1r, zvE]
      · cases hx
    · have h0 : b ≠ q := hq 0 (.inl (9, L, .inl xs)) rfl
      simp [Ne.symm h0]
  obtain ⟨W1, hrun, hsim⟩ := zrun_v (z1r_inj hbl) z1r_succ f d 169 0 _ _ _ _ _ _ hz hw0
  have h1 : W1.2.1 ≤ s.heap.size + 600000 ∧ W1.2.2 ≤ 7302250 := by
    refine ⟨?_, by rw [hsim.2.1]; exact hsl⟩
    rw [hsim.1]
    have := hsim.2.2.1
    unfold z1r
    rw [if_neg (by omega)]
    omega
  rw [lg_entry_eq]
  refine z_sound Y s.heap.size l f d 169 0 _ _ _ _ W1 _ zMt_law hrun p e room_1 s m _ below meth c s.heap [] 0 0 _ _ ⟨hx, hb, hml, hr, hlocks, hT, hown, fun h => (by cases h), hK, Nat.le_refl _⟩ ?_ va_S.rf ?_ ?_ ?_ ?_ ?_ ?_
  · refine ⟨rfl, [], fun k q h => by simp at h, ⟨fun i j p q h => by simp at h, fun k q h => by simp at h⟩, fun a x hx => Or.inr ?_⟩
    dsimp only at hx
    split at hx
    · rename_i ha
      subst ha
      simp only [Option.some.injEq] at hx
      subst hx
      exact ⟨L, xs, rfl, hbl, hX⟩
    · cases hx
  · exact zR_entry (vs := [Value.ref b]) (n := 4) (by show 1 ≤ 4; decide)
  · exact Nat.le_trans hd (by decide)
  · show 60 * d ≤ 84000
    omega
  · show 0 + (W1.2.1 - s.heap.size) ≤ 600000
    omega
  · show 0 + (W1.2.2 - 0) ≤ 7302250
    omega
  · intro H1 locs1 pc1 ls1 st1 i hdc hend hw1 hS1
    cases i <;> simp only [zend, reduceCtorEq] at hend
    case ireturn =>
      split at hend
      · rename_i hret
        cases hret
      · rename_i x hret
        split at hend
        · simp only [Option.some.injEq, Value.int.injEq, Option.map_some, zv] at hend
          subst hend
          refine va_forget (fun q hq => hS1.2.2 q hq) ?_
          refine W.widen (k := 600000) (n := 7302250) (by show 0 + (W1.2.1 - s.heap.size) ≤ 600000; omega) (by show 0 + (W1.2.2 - 0) ≤ 7302250; omega) ?_
          exact lw_ret hx hb hr hlocks hdc
        · cases hend
      · cases hend
