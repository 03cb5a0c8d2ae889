/-! calls of the small machine -/
theorem zMk {Ms : List zMe} {qs : List (Nat × Nat)} (h : zMtBs Ms qs = true) {M : zMe} (hM : M ∈ Ms) : ∃ q, zMtB M q = true := by
  unfold zMtBs at h
  simp only [Bool.and_eq_true, decide_eq_true_eq] at h
  exact zzip h.1 h.2 M hM
theorem zCk' {es : List (Nat × Nat × Nat × Nat × Nat × Nat)} {vs : List (List Nat)} (h : zCallBs es vs = true) {e : Nat × Nat × Nat × Nat × Nat × Nat} (he : e ∈ es) : ∃ v, zCallB e v = true := by
  unfold zCallBs at h
  simp only [Bool.and_eq_true, decide_eq_true_eq] at h
  exact zzip h.1 h.2 e he
theorem zM_fact0 {M : zMe} (hm : M ∈ zMt0) : ∃ q, zMtB M q = true := by
  simp only [zMt0, List.mem_append] at hm
  rcases hm with h | h | h | h | h | h | h | h | h | h | h | h | h | h | h
  · exact zMk zMb_0 h
  · exact zMk zMb_1 h
  · exact zMk zMb_2 h
  · exact zMk zMb_3 h
  · exact zMk zMb_4 h
  · exact zMk zMb_5 h
  · exact zMk zMb_6 h
  · exact zMk zMb_7 h
  · exact zMk zMb_8 h
  · exact zMk zMb_9 h
  · exact zMk zMb_10 h
  · exact zMk zMb_11 h
  · exact zMk zMb_12 h
  · exact zMk zMb_13 h
  · exact zMk zMb_14 h
theorem zC_fact {e : Nat × Nat × Nat × Nat × Nat × Nat} (he : e ∈ zCl) : ∃ v, zCallB e v = true := by
  simp only [zCl, List.mem_append] at he
  rcases he with h | h | h | h
  · exact zCk' zCb_0 h
  · exact zCk' zCb_1 h
  · exact zCk' zCb_2 h
  · exact zCk' zCb_3 h
theorem zM_fact {mi : Nat} {M : zMe} (h : zMt[mi]? = some M) (hlt : mi + 1 < zMt.length) : plainName M.1.cls = true ∧ Cond.code M.1 M.2.1 M.2.2.1 M.2.2.2.1 ∈ zT ∧ M.1.cls = zOwn M.2.2.2.2.1 ∧ (M.2.2.2.2.2 = true → M.1.name = "<init>") ∧ M.2.2.1 ≤ 30 ∧ Cond.initialized M.1.cls ∈ zT ∧ M.1.cls ≠ "java/lang/invoke/MethodHandle" ∧ M.1.cls ≠ "java/lang/invoke/VarHandle" := by
  have hm : M ∈ zMt0 := by
    have h1 : mi < zMt0.length := by
      unfold zMt at hlt
      rw [List.length_append] at hlt
      simp only [List.length_cons, List.length_nil] at hlt
      omega
    unfold zMt at h
    rw [List.getElem?_append_left h1] at h
    exact List.mem_of_getElem? h
  obtain ⟨q, hq⟩ := zM_fact0 hm
  unfold zMtB at hq
  simp only [Bool.and_eq_true, Bool.or_eq_true, Bool.not_eq_true', decide_eq_true_eq] at hq
  obtain ⟨⟨⟨⟨⟨⟨⟨h1, h2⟩, h3⟩, h4⟩, h5⟩, h6⟩, h7⟩, h8⟩ := hq
  exact ⟨h1, zat_in h2, h3, fun hi => by rcases h4 with h | h; · rw [hi] at h; cases h
                                         · exact h, h5, zat_in h6, h7, h8⟩
theorem zK.warm {Y : zY} {s U : State} (hW : s.WarmedH U.vm) (h : zK Y s) : zK Y U := by
  obtain ⟨h1, h2, h3, h4, h5, h6, h7, h8, h9, h10⟩ := h
  exact ⟨va_K.moved hW.alike h1, h2, va_AO.moved hW.alike h3, va_AO.moved hW.alike h4, va_Nw.warmC hW h5, va_Nw.warmC hW h6, va_Nw.warmC hW h7, va_Nc.moved hW.alike h8, fun x hx => va_Nw.warmD hW (h9 x hx), va_Nw.warmM hW h10⟩
theorem zK.same {Y : zY} {s U : State} (hv : s.vm = U.vm) (h : zK Y s) : zK Y U := by
  obtain ⟨h1, h2, h3, h4, h5, h6, h7, h8, h9, h10⟩ := h
  have ha : s.vm.Alike U.vm := by rw [hv]; exact Vm.Alike.refl _
  exact ⟨va_K.moved ha h1, h2, va_AO.moved ha h3, va_AO.moved ha h4, va_Nw.same rfl hv h5, va_Nw.same rfl hv h6, va_Nw.same rfl hv h7, va_Nc.moved ha h8, fun x hx => va_Nw.same rfl hv (h9 x hx), va_Nw.same rfl hv h10⟩
theorem zw.moved {Y : zY} {z0 : Nat} {s U : State} {H : Heap} {w : zW} (ha : s.vm.Alike U.vm) (h : zw Y z0 s H w) : zw Y z0 U H w := by
  obtain ⟨h1, ws, hP, hD, hA⟩ := h
  refine ⟨h1, ws, hP, hD, fun a e he => ?_⟩
  rcases hA a e he with h | ⟨L, xs, h2, h3, h4⟩
  · exact Or.inl h
  · exact Or.inr ⟨L, xs, h2, h3, h4.moved ha⟩
def zPc (Y : zY) (z0 : Nat) (w : zW) (As : List Value) : Array Value → State → Prop := va_Pc As (fun U => zw Y z0 U U.heap w ∧ zK Y U ∧ z0 ≤ U.heap.size)
def zQ (Y : zY) (z0 : Nat) (r : Option Value) (w' : zW) : Array Value → State → Outcome → State → Prop := fun _ st oc t => oc = .returned r ∧ zw Y z0 t t.heap w' ∧ va_F (fun q => z0 ≤ q) st t
theorem zPc_blind {Y : zY} {z0 : Nat} {w : zW} {As : List Value} : FrameBlind (zPc Y z0 w As) := by
  rintro a U g mk ⟨h1, h2, h3, h4⟩
  exact ⟨h1, zw.moved (s := U) (U := U.calling g mk a) (Vm.Alike.refl U.vm) h2, zK.same (s := U) (U := U.calling g mk a) rfl h3, h4⟩
def zCtx (p : Program) (s : State) (m : MethodId) (args : Array Value) (meth : Method) (c : Code) (Y : zY) (z0 : Nat) (M : zMe) : Prop := p.tables.exec = Jvm.exec ∧ c.code = M.2.1 ∧ c.maxLocals = M.2.2.1 ∧ meth.sig.returnType = M.2.2.2.1 ∧ meth.locks = false ∧ (∀ w ∈ zT, w.before args s = true) ∧ s.vm.findClass (zOwn M.2.2.2.2.1) = some m.cls ∧ (M.2.2.2.2.2 = true → meth.name = "<init>") ∧ zK Y s ∧ z0 ≤ s.heap.size
theorem zgood {w0 : Cond} (h : w0 ∈ zT) : GoodIn zT (w0 :: zT) := fun w hw => by
  rcases List.mem_cons.mp hw with rfl | h'
  · exact ⟨h, good_of_word (zT_good h)⟩
  · exact ⟨h', good_of_word (zT_good h')⟩
theorem zgoodA {l : List Cond} (h : ∀ w ∈ l, w ∈ zT) {w0 : Cond} (h0 : w0 ∈ zT) : GoodIn zT (l ++ (w0 :: zT)) := fun w hw => by
  rcases List.mem_append.mp hw with h' | h'
  · exact ⟨h w h', good_of_word (zT_good (h w h'))⟩
  · exact zgood h0 w h'
theorem zdrop {st r : List Value} {n : Nat} {v : Value} (h : st.drop n = v :: r) : st = st.take n ++ v :: r ∧ st.drop (n + 1) = r ∧ (st.take n).length = n := by
  refine ⟨by rw [← h, List.take_append_drop], ?_, ?_⟩
  · rw [← List.drop_drop, h]
    rfl
  · have hlen : (st.drop n).length = r.length + 1 := by rw [h]; rfl
    rw [List.length_drop] at hlen
    rw [List.length_take]
    omega
section ZCA
variable {p : Program} {l : Launch} {e : Env} {R : Room} {s : State} {m : MethodId} {args : Array Value} {below : List Frame} {meth : Method} {c : Code} {H : Heap} {locs : List Loc} {cells slots : Nat} {Q : State → Prop}
variable {pc len : Nat} {ls : Array Slot} {st : List Value} {Y : zY} {z0 : Nat} {w : zW} {M M' : zMe} {i : Instr} {mj : Nat} {as r : List Value} {rm : Room} {mc ms : Nat} {Qc : Array Value → State → Outcome → State → Prop} {free : Addr → Prop}
set_option maxRecDepth 100000 in
set_option maxHeartbeats 4000000 in
theorem zcall_run (C : zCtx p s m args meth c Y z0 M) (hz : zcall M.2.2.2.2.1 i len st w = some (mj, as, r)) (hd : decode M.2.1 pc = .ok (i, len)) (hM' : zMt[mj]? = some M')
    (hMet : mj + 1 < zMt.length → Met l M'.1 (Cond.code M'.1 M'.2.1 M'.2.2.1 M'.2.2.2.1 :: zT) rm (zPc Y z0 w as) Qc mc ms free) (hrc : rm.cells = mc) (hrs : rm.slots = ms) (hfr : rm.frames + 1 ≤ R.frames) (hlo : rm.locals + 60 ≤ R.locals)
    (hw : zw Y z0 s H w) (hS : va_S (fun q => z0 ≤ q) s.heap H locs) (hsz : ls.size = M.2.2.1) (hf : cells + mc ≤ R.cells ∧ slots + ms ≤ R.slots) :
    len = 3 ∧ va_Run p l e R s m args below meth c H locs cells slots mc ms (F0 m pc ls st) r (Qc as.toArray) free := by
  obtain ⟨hx, hb, hml, hr0, hlk, hts, hown, hini, hKz, hz0⟩ := C
  have hsize : (F0 m pc ls st).locals.size = M.2.2.1 := hsz
  have S : CallFix p m c M.2.1 M.2.2.1 s args zT (zOwn M.2.2.2.2.1) := ⟨hx, hb, hml, hown, hts⟩
  have hpre : ∀ U : State, U.heap = H → s.WarmedH U.vm → zPc Y z0 w as as.toArray U := fun U hU hW => ⟨rfl, by rw [hU]; exact hw.moved hW.alike, hKz.warm hW, by rw [hU]; exact Nat.le_trans hz0 hS.1⟩
  cases i <;> simp only [zcall, reduceCtorEq] at hz
  case invokespecial idx =>
    split at hz
    · rename_i kd _ mj' n hcl
      split at hz
      · rename_i hc
        obtain ⟨rfl, hkd, hr8⟩ := hc
        split at hz
        · rename_i b rr hdr
          simp only [Option.some.injEq, Prod.mk.injEq] at hz
          obtain ⟨rfl, rfl, rfl⟩ := hz
          obtain ⟨hst, hdr1, hln⟩ := zdrop hdr
          rw [hdr1] at hr8
          obtain ⟨v, hv⟩ := zC_fact (zcl_inv hcl)
          unfold zCallB at hv
          rw [hM'] at hv
          obtain ⟨y, bb, mL', ret', o', ini'⟩ := M'
          rcases hkd with rfl | rfl
          · match v, hv with
            | [], hv => simp at hv
            | [_], hv => simp at hv
            | [a1, a2], hv =>
              simp only [Nat.not_lt_zero, decide_false, Bool.false_or, Bool.and_eq_true, decide_eq_true_eq] at hv
              obtain ⟨⟨hlt, hpar⟩, ⟨⟨hret, g1⟩, g2⟩, g3⟩ := hv
              subst hret
              obtain ⟨f1, f2, f3, f4, f5, f6, f7, f8⟩ := zM_fact hM' hlt
              dsimp only at f2 f6 f7 f8 f5 hMet
              refine ⟨rfl, va_runI (As := (st.take n).reverse) (rest := rr) S (hMet hlt) (cwI n hts (zgood f2) rfl hrc hrs (hts _ f6) (hts _ (zat_in g1)) (hts _ (zat_in g2)) g3 ⟨f7, f8, hpar⟩ ⟨hfr, by omega⟩) ⟨zPc_blind, hpre⟩ rfl (by rw [List.length_reverse]; exact hln) hsize (by rw [List.reverse_reverse]; exact hst) (lv_room hr8) hd hf⟩
            | _ :: _ :: _ :: _, hv => simp at hv
          · match v, hv with
            | [], hv => simp at hv
            | [a1], hv =>
              simp only [Nat.reduceLT, decide_false, Bool.false_or, Bool.and_eq_true, decide_eq_true_eq] at hv
              obtain ⟨⟨hlt, hpar⟩, ⟨⟨⟨⟨hret, g1⟩, g2⟩, g3⟩, g4⟩, g5⟩ := hv
              subst hret
              subst g2
              obtain ⟨f1, f2, f3, f4, f5, f6, f7, f8⟩ := zM_fact hM' hlt
              dsimp only at f2 f6 f7 f8 f5 hMet
              have hnest : va_Nw (.methodLinkNest (zOwn M.2.2.2.2.1) 11 y RX6) s := by
                rw [g1, g3]
                exact hKz.2.2.2.2.2.2.2.2.2
              refine ⟨rfl, va_runIN (As := (st.take n).reverse) (rest := rr) (host := RX6) S (hMet hlt) ⟨va_cnB n hts (zgood f2) rfl hrc hrs hnest (hts _ f6) ⟨f7, f8, hpar⟩ ⟨hfr, by omega⟩, g5, hts _ (zat_in g4)⟩ ⟨zPc_blind, hpre⟩ rfl (by rw [List.length_reverse]; exact hln) hsize (by rw [List.reverse_reverse]; exact hst) (lv_room hr8) hd hf⟩
            | _ :: _ :: _, hv => simp at hv
        · cases hz
      · cases hz
    · cases hz
  case invokestatic idx =>
    split at hz
    · rename_i kd _ mj' n hcl
      split at hz
      · rename_i hc
        obtain ⟨rfl, rfl, hle, hr8⟩ := hc
        simp only [Option.some.injEq, Prod.mk.injEq] at hz
        obtain ⟨rfl, rfl, rfl⟩ := hz
        obtain ⟨v, hv⟩ := zC_fact (zcl_inv hcl)
        unfold zCallB at hv
        rw [hM'] at hv
        obtain ⟨y, bb, mL', ret', o', ini'⟩ := M'
        match v, hv with
        | [], hv => simp at hv
        | [_], hv => simp at hv
        | [a1, a2], hv =>
          simp only [Nat.reduceLT, decide_false, Bool.false_or, Bool.and_eq_true, decide_eq_true_eq] at hv
          obtain ⟨⟨hlt, hpar⟩, g1, g2⟩ := hv
          obtain ⟨f1, f2, f3, f4, f5, f6, f7, f8⟩ := zM_fact hM' hlt
          dsimp only at f2 f6 f7 f8 f5 hMet
          refine ⟨rfl, va_runS (As := (st.take n).reverse) (rest := st.drop n) S (hMet hlt) ⟨callB_of n hts (zgood f2) rfl hrc hrs (hts _ f6) (hts _ (zat_in g1)) ⟨f7, f8, hpar⟩ ⟨hfr, by omega⟩, hts _ (zat_in g2)⟩ ⟨zPc_blind, hpre⟩ rfl (by rw [List.length_reverse, List.length_take]; omega) hsize (by rw [List.reverse_reverse, List.take_append_drop]) (lv_room hr8) hd hf⟩
        | _ :: _ :: _ :: _, hv => simp at hv
      · cases hz
    · cases hz
  case invokevirtual idx =>
    split at hz
    · rename_i _ _ _ n hcl0
      split at hz
      · rename_i hc
        obtain ⟨rfl, hr8⟩ := hc
        split at hz
        · rename_i b rr hdr
          split at hz
          · rename_i ci fs hbo
            split at hz
            · rename_i kd ci' mj' n' hcl
              split at hz
              · rename_i hc2
                obtain ⟨rfl, hkd⟩ := hc2
                simp only [Option.some.injEq, Prod.mk.injEq] at hz
                obtain ⟨rfl, rfl, rfl⟩ := hz
                obtain ⟨hst, hdr1, hln⟩ := zdrop hdr
                rw [hdr1] at hr8
                obtain ⟨hci6, hrecv⟩ := zrecv hKz.1 hw hbo
                obtain ⟨hmem, hce⟩ := zclv_inv hcl
                dsimp only at hce
                subst hce
                obtain ⟨v, hv⟩ := zC_fact hmem
                unfold zCallB at hv
                rw [hM'] at hv
                obtain ⟨y, bb, mL', ret', o', ini'⟩ := M'
                rcases hkd with rfl | rfl | rfl
                · match v, hv with
                  | [], hv => simp at hv
                  | [_], hv => simp at hv
                  | [_, _], hv => simp at hv
                  | [a1, a2, a3], hv =>
                    simp only [Nat.reduceLT, decide_false, Bool.false_or, Bool.and_eq_true, decide_eq_true_eq] at hv
                    obtain ⟨⟨hlt, hpar⟩, ⟨⟨g1, g2⟩, g3⟩, g4⟩ := hv
                    obtain ⟨f1, f2, f3, f4, f5, f6, f7, f8⟩ := zM_fact hM' hlt
                    dsimp only at f2 f6 f7 f8 f5 hMet
                    have hT : GoodIn zT (wsV (zOwn M.2.2.2.2.1) idx y.cls y (Cond.code y bb mL' ret' :: zT)) := by
                      unfold wsV
                      refine zgoodA (fun w hw => ?_) f2
                      simp only [List.mem_cons, List.not_mem_nil, or_false] at hw
                      rcases hw with rfl | rfl | rfl | rfl
                      · exact zat_in g1
                      · exact zat_in g2
                      · rw [g4]; exact zat_in g3
                      · exact f6
                    rw [← g4] at hrecv
                    refine ⟨rfl, va_runV (As := (st.take n').reverse) (rest := rr) S (hMet hlt) (cwV n' hts hT rfl hrc hrs ⟨rfl, f7, f8, hpar⟩ ⟨hfr, by omega⟩) ⟨zPc_blind, hrecv, hpre⟩ rfl (by rw [List.length_reverse]; exact hln) hsize (by rw [List.reverse_reverse]; exact hst) (lv_room hr8) hd hf⟩
                  | _ :: _ :: _ :: _ :: _, hv => simp at hv
                · match v, hv with
                  | [], hv => simp at hv
                  | [_], hv => simp at hv
                  | [_, _], hv => simp at hv
                  | [_, _, _], hv => simp at hv
                  | [_, _, _, _], hv => simp at hv
                  | [xc, a2, a1, a3, a4], hv =>
                    simp only [Nat.reduceLT, decide_false, Bool.false_or, Bool.and_eq_true, decide_eq_true_eq] at hv
                    obtain ⟨⟨hlt, hpar⟩, ⟨⟨⟨g1, g2⟩, g3⟩, g4⟩, g5⟩ := hv
                    obtain ⟨f1, f2, f3, f4, f5, f6, f7, f8⟩ := zM_fact hM' hlt
                    dsimp only at f2 f6 f7 f8 f5 hMet
                    have hT : GoodIn zT (va_wsU (zOwn M.2.2.2.2.1) idx (ztab ci').1 RX2 ⟨zOwn xc, y.name, y.desc⟩ y (Cond.code y bb mL' ret' :: zT)) := by
                      unfold va_wsU
                      refine zgoodA (fun w hw => ?_) f2
                      simp only [List.mem_cons, List.not_mem_nil, or_false] at hw
                      rcases hw with rfl | rfl | rfl | rfl | rfl
                      · exact zat_in g3
                      · exact zat_in g4
                      · exact zat_in g5
                      · exact zat_in g2
                      · exact f6
                    refine ⟨rfl, va_runU (As := (st.take n').reverse) (rest := rr) S (hMet hlt) (va_cwU n' hts hT rfl hrc hrs (by rw [← g1]) ⟨by decide, by decide, hpar⟩ ⟨hfr, by omega⟩) ⟨zPc_blind, hrecv, hpre⟩ rfl (by rw [List.length_reverse]; exact hln) hsize (by rw [List.reverse_reverse]; exact hst) (lv_room hr8) hd hf⟩
                  | _ :: _ :: _ :: _ :: _ :: _ :: _, hv => simp at hv
                · match v, hv with
                  | [], hv => simp at hv
                  | [_], hv => simp at hv
                  | [_, _], hv => simp at hv
                  | [_, _, _], hv => simp at hv
                  | [a2, a1, a3, a4], hv =>
                    simp only [Nat.reduceLT, decide_false, Bool.false_or, Bool.and_eq_true, decide_eq_true_eq] at hv
                    obtain ⟨⟨hlt, hpar⟩, ⟨⟨⟨g1, g2⟩, g3⟩, g4⟩, g5⟩ := hv
                    obtain ⟨f1, f2, f3, f4, f5, f6, f7, f8⟩ := zM_fact hM' hlt
                    dsimp only at f2 f6 f7 f8 f5 hMet
                    have hT : GoodIn zT (va_wsU (zOwn M.2.2.2.2.1) idx (ztab ci').1 RX2 ⟨RX2, y.name, y.desc⟩ y (Cond.code y bb mL' ret' :: zT)) := by
                      unfold va_wsU
                      refine zgoodA (fun w hw => ?_) f2
                      simp only [List.mem_cons, List.not_mem_nil, or_false] at hw
                      rcases hw with rfl | rfl | rfl | rfl | rfl
                      · exact zat_in g3
                      · exact zat_in g4
                      · exact zat_in g5
                      · exact zat_in g2
                      · exact f6
                    refine ⟨rfl, va_runU (As := (st.take n').reverse) (rest := rr) S (hMet hlt) (va_cwA n' hts hT rfl hrc hrs (hKz.2.2.2.2.2.2.2.2.1 _ g1) ⟨by decide, by decide, hpar⟩ ⟨hfr, by omega⟩) ⟨zPc_blind, hrecv, hpre⟩ rfl (by rw [List.length_reverse]; exact hln) hsize (by rw [List.reverse_reverse]; exact hst) (lv_room hr8) hd hf⟩
                  | _ :: _ :: _ :: _ :: _ :: _, hv => simp at hv
              · cases hz
            · cases hz
          · cases hz
        · cases hz
      · cases hz
    · cases hz
end ZCA
