/-! how runs of the small machine are shown: zev d mi pc L st w r w': from there the method comes to its end with r and w' -/
theorem zrun_more : ∀ (f d mi pc : Nat) (L : zL) (st : List Value) (w : zW) (x : Option Value × zW), zrun f d mi pc L st w = some x → zrun (f + 1) d mi pc L st w = some x
  | 0, d, mi, pc, L, st, w, x, h => by simp [zrun] at h
  | f + 1, d, mi, pc, L, st, w, x, h => by
    unfold zrun at h
    unfold zrun
    split at h
    · cases h
    · rename_i hM
      try rw [hM]
      try dsimp only
      split at h
      · cases h
      · rename_i hd
        try rw [hd]
        try dsimp only
        split at h
        · rename_i he
          try rw [he]
          exact h
        · rename_i he
          try rw [he]
          try dsimp only
          split at h
          · rename_i ha
            try rw [ha]
            exact zrun_more f _ _ _ _ _ _ _ h
          · rename_i ha
            try rw [ha]
            try dsimp only
            split at h
            · rename_i hh
              try rw [hh]
              exact zrun_more f _ _ _ _ _ _ _ h
            · rename_i hh
              try rw [hh]
              try dsimp only
              split at h
              · cases h
              · rename_i hc
                try rw [hc]
                try dsimp only
                cases d with
                | zero => cases h
                | succ d' =>
                  dsimp only at h ⊢
                  split at h
                  · cases h
                  · rename_i hM'
                    try rw [hM']
                    try dsimp only
                    split at h
                    · rename_i hen
                      try rw [if_pos hen]
                      split at h
                      · cases h
                      · rename_i hr
                        rw [zrun_more f _ _ _ _ _ _ _ hr]
                        exact zrun_more f _ _ _ _ _ _ _ h
                    · cases h
theorem zrun_up {f g d mi pc : Nat} {L : zL} {st : List Value} {w : zW} {x : Option Value × zW} (hfg : f ≤ g) (h : zrun f d mi pc L st w = some x) : zrun g d mi pc L st w = some x := by
  induction hfg with
  | refl => exact h
  | step _ ih => exact zrun_more _ _ _ _ _ _ _ _ ih
def zev (d mi pc : Nat) (L : zL) (st : List Value) (w : zW) (r : Option Value) (w' : zW) : Prop := ∃ f, zrun f d mi pc L st w = some (r, w')
/-- a method from its entry -/
def zmet (d mi : Nat) (as : List Value) (w : zW) (r : Option Value) (w' : zW) : Prop := ∃ M, zMt[mi]? = some M ∧ (zen as).length ≤ M.2.2.1 ∧ zev d mi 0 (zin M.2.2.1 as) [] w r w'
section ZE
variable {d mi pc len mL o : Nat} {L L' : zL} {st st' : List Value} {w w1 w' : zW} {r : Option Value} {y : MethodName} {b : ByteArray} {ret : Option FieldType} {ini : Bool} {i : Instr} {pc' : Nat}
theorem zev_end {r' : Option Value} (hM : zMt[mi]? = some (y, b, mL, ret, o, ini)) (hd : decode b pc = .ok (i, len)) (he : zend ret i len st = some r') : zev d mi pc L st w r' w := ⟨1, by simp [zrun, hM, hd, he]⟩
theorem zev_A (hM : zMt[mi]? = some (y, b, mL, ret, o, ini)) (hd : decode b pc = .ok (i, len)) (he : zend ret i len st = none) (ha : zA mL i len pc L st = some (pc', L', st')) (k : zev d mi pc' L' st' w r w') : zev d mi pc L st w r w' := by
  obtain ⟨f, hf⟩ := k
  exact ⟨f + 1, by simp [zrun, hM, hd, he, ha, hf]⟩
theorem zev_H (hM : zMt[mi]? = some (y, b, mL, ret, o, ini)) (hd : decode b pc = .ok (i, len)) (he : zend ret i len st = none) (ha : zA mL i len pc L st = none) (hh : zH o ini d i len pc st w = some (pc', st', w1)) (k : zev d mi pc' L st' w1 r w') : zev d mi pc L st w r w' := by
  obtain ⟨f, hf⟩ := k
  exact ⟨f + 1, by simp [zrun, hM, hd, he, ha, hh, hf]⟩
theorem zev_call {mj : Nat} {as rr : List Value} {v : Option Value} (hM : zMt[mi]? = some (y, b, mL, ret, o, ini)) (hd : decode b pc = .ok (i, len)) (he : zend ret i len st = none) (ha : zA mL i len pc L st = none) (hh : zH o ini (d + 1) i len pc st w = none) (hc : zcall o i len st w = some (mj, as, rr)) (hm : zmet d mj as w v w1) (k : zev (d + 1) mi (pc + 3) L (v.toList ++ rr) w1 r w') : zev (d + 1) mi pc L st w r w' := by
  obtain ⟨M', hM', hen, f1, h1⟩ := hm
  obtain ⟨f2, h2⟩ := k
  obtain ⟨y', b', mL', ret', o', ini'⟩ := M'
  refine ⟨max f1 f2 + 1, ?_⟩
  have h1 := zrun_up (Nat.le_max_left f1 f2) h1
  have h2 := zrun_up (Nat.le_max_right f1 f2) h2
  dsimp only at hen h1
  simp [zrun, hM, hd, he, ha, hh, hc, hM', hen, h1, h2]
/-- branches -/
theorem zev_if {c : Jvm.ClassFile.Cond} {off : Int} {x : Int32} {rr : List Value} (tgt : Nat) (hM : zMt[mi]? = some (y, b, mL, ret, o, ini)) (hd : decode b pc = .ok (.ifCond c off, 3)) (ht : (pc : Int) + off = (tgt : Int)) (kt : zcc c x 0 = true → zev d mi tgt L rr w r w') (kf : zcc c x 0 = false → zev d mi (pc + 3) L rr w r w') : zev d mi pc L (.int x :: rr) w r w' := by
  cases hx : zcc c x 0 with
  | true => exact zev_A hM hd rfl (by simp only [zA, zif, zbr, hx, ht]; simp) (kt hx)
  | false => exact zev_A hM hd rfl (by simp only [zA, zif, zbr, hx, ht]; simp) (kf hx)
theorem zev_ic {c : Jvm.ClassFile.Cond} {off : Int} {x z : Int32} {rr : List Value} (tgt : Nat) (hM : zMt[mi]? = some (y, b, mL, ret, o, ini)) (hd : decode b pc = .ok (.if_icmp c off, 3)) (ht : (pc : Int) + off = (tgt : Int)) (kt : zcc c x z = true → zev d mi tgt L rr w r w') (kf : zcc c x z = false → zev d mi (pc + 3) L rr w r w') : zev d mi pc L (.int z :: .int x :: rr) w r w' := by
  cases hx : zcc c x z with
  | true => exact zev_A hM hd rfl (by simp only [zA, zic, zbr, hx, ht]; simp) (kt hx)
  | false => exact zev_A hM hd rfl (by simp only [zA, zic, zbr, hx, ht]; simp) (kf hx)
/-- reads and stores, the cell by a row of its own -/
theorem zev_get {idx a ci k : Nat} {fs rr : List Value} {cs : List Nat} {v : Value} (hM : zMt[mi]? = some (y, b, mL, ret, o, ini)) (hd : decode b pc = .ok (.getfield idx, 3)) (hf : zfl o idx = some (k, cs)) (ha : w.1 a = some (.inr (ci, fs))) (hc : ci ∈ cs) (hv : fs[k]? = some v) (kk : zev d mi (pc + 3) L (v :: rr) w r w') : zev d mi pc L (.ref a :: rr) w r w' :=
  zev_H hM hd rfl (by simp only [zA]) (by simp only [zH, zHget, ha, hf, hc, hv]; simp) kk
theorem zev_put {idx a ci k : Nat} {fs rr : List Value} {cs : List Nat} {v : Value} (hM : zMt[mi]? = some (y, b, mL, ret, o, ini)) (hd : decode b pc = .ok (.putfield idx, 3)) (hf : zfl o idx = some (k, cs)) (ha : w.1 a = some (.inr (ci, fs))) (hc : ci ∈ cs) (hl : k < fs.length) (hv : zokv (ztyp ci k) v = true) (hn : zfin o ci k ini = true) (kk : zev d mi (pc + 3) L rr (va_up w.1 a (some (.inr (ci, fs.set k v))), w.2) r w') : zev d mi pc L (v :: .ref a :: rr) w r w' :=
  zev_H hM hd rfl (by simp only [zA]) (by simp only [zH, zHput, ha, hf, hc, hl, hv, hn]; simp) kk
theorem zev_iald {a N : Nat} {f : Nat → Int32} {x : Int32} {rr : List Value} (hM : zMt[mi]? = some (y, b, mL, ret, o, ini)) (hd : decode b pc = .ok (.iaload, 1)) (ha : w.1 a = some (.inl (0, N, .inl f))) (hi : zbd x N = true) (kk : zev d mi (pc + 1) L (.int (f x.toNatClampNeg) :: rr) w r w') : zev d mi pc L (.int x :: .ref a :: rr) w r w' :=
  zev_H hM hd rfl (by simp only [zA]) (by simp only [zH, zHia, ha, hi]; simp) kk
theorem zev_lald {a N : Nat} {f : Nat → Int64} {x : Int32} {rr : List Value} (hM : zMt[mi]? = some (y, b, mL, ret, o, ini)) (hd : decode b pc = .ok (.laload, 1)) (ha : w.1 a = some (.inl (1, N, .inr (.inl f)))) (hi : zbd x N = true) (kk : zev d mi (pc + 1) L (.long (f x.toNatClampNeg) :: rr) w r w') : zev d mi pc L (.int x :: .ref a :: rr) w r w' :=
  zev_H hM hd rfl (by simp only [zA]) (by simp only [zH, zHla, ha, hi]; simp) kk
theorem zev_bald {a N : Nat} {f : Nat → Int32} {x : Int32} {rr : List Value} (hM : zMt[mi]? = some (y, b, mL, ret, o, ini)) (hd : decode b pc = .ok (.baload, 1)) (ha : w.1 a = some (.inl (2, N, .inl f))) (hi : zbd x N = true) (kk : zev d mi (pc + 1) L (.int (f x.toNatClampNeg) :: rr) w r w') : zev d mi pc L (.int x :: .ref a :: rr) w r w' :=
  zev_H hM hd rfl (by simp only [zA]) (by simp only [zH, zHba, ha, hi]; simp) kk
theorem zev_aald {a N kd : Nat} {f : Nat → Option Nat} {x : Int32} {rr : List Value} (hM : zMt[mi]? = some (y, b, mL, ret, o, ini)) (hd : decode b pc = .ok (.aaload, 1)) (ha : w.1 a = some (.inl (kd, N, .inr (.inr (.inr (.inr f)))))) (hk : kd = 3 ∨ kd = 4) (hi : zbd x N = true) (kk : zev d mi (pc + 1) L (va_rf (f x.toNatClampNeg) :: rr) w r w') : zev d mi pc L (.int x :: .ref a :: rr) w r w' :=
  zev_H hM hd rfl (by simp only [zA]) (by simp only [zH, zHaa, ha, hi, hk]; simp) kk
theorem zev_iast {a N : Nat} {f : Nat → Int32} {x v : Int32} {rr : List Value} (hM : zMt[mi]? = some (y, b, mL, ret, o, ini)) (hd : decode b pc = .ok (.iastore, 1)) (ha : w.1 a = some (.inl (0, N, .inl f))) (hi : zbd x N = true) (kk : zev d mi (pc + 1) L rr (va_up w.1 a (some (.inl (0, N, .inl (upd f x.toNatClampNeg v)))), w.2) r w') : zev d mi pc L (.int v :: .int x :: .ref a :: rr) w r w' :=
  zev_H hM hd rfl (by simp only [zA]) (by simp only [zH, zHis, ha, hi]; simp) kk
theorem zev_last {a N : Nat} {f : Nat → Int64} {x : Int32} {v : Int64} {rr : List Value} (hM : zMt[mi]? = some (y, b, mL, ret, o, ini)) (hd : decode b pc = .ok (.lastore, 1)) (ha : w.1 a = some (.inl (1, N, .inr (.inl f)))) (hi : zbd x N = true) (kk : zev d mi (pc + 1) L rr (va_up w.1 a (some (.inl (1, N, .inr (.inl (vp_updL f x.toNatClampNeg v))))), w.2) r w') : zev d mi pc L (.long v :: .int x :: .ref a :: rr) w r w' :=
  zev_H hM hd rfl (by simp only [zA]) (by simp only [zH, zHls, ha, hi]; simp) kk
theorem zev_bast {a N : Nat} {f : Nat → Int32} {x v : Int32} {rr : List Value} (hM : zMt[mi]? = some (y, b, mL, ret, o, ini)) (hd : decode b pc = .ok (.bastore, 1)) (ha : w.1 a = some (.inl (2, N, .inl f))) (hi : zbd x N = true) (kk : zev d mi (pc + 1) L rr (va_up w.1 a (some (.inl (2, N, .inl (upd f x.toNatClampNeg (vp_nar .boolean v))))), w.2) r w') : zev d mi pc L (.int v :: .int x :: .ref a :: rr) w r w' :=
  zev_H hM hd rfl (by simp only [zA]) (by simp only [zH, zHbs, ha, hi]; simp) kk
end ZE
