/-! worlds by permutation; worlds with a tail; methods that throw -/
theorem va_P_iff {D : va_G} {cl : List vw_C} {ws : va_W} {H : Heap} : va_P D cl ws H ↔ ∀ q ∈ ws, va_at D cl q H := by
  constructor
  · intro h q hq
    obtain ⟨k, hk⟩ := List.getElem?_of_mem hq
    exact h k q hk
  · intro h k q hk
    exact h q (List.mem_of_getElem? hk)
theorem va_D_iff {A : Nat → Prop} {ws : va_W} : va_D A ws ↔ (ws.map Prod.fst).Nodup ∧ ∀ q ∈ ws, A q.1 := by
  constructor
  · intro h
    refine ⟨?_, fun q hq => ?_⟩
    · unfold List.Nodup
      rw [List.pairwise_iff_getElem]
      intro i j hi hj hij heq
      rw [List.length_map] at hi hj
      rw [List.getElem_map, List.getElem_map] at heq
      have h3 := h.1 i j _ _ (List.getElem?_eq_getElem hi) (List.getElem?_eq_getElem hj) heq
      omega
    · obtain ⟨k, hk⟩ := List.getElem?_of_mem hq
      exact h.2 k q hk
  · intro ⟨h1, h2⟩
    refine ⟨fun i j p q hi hj hpq => ?_, fun k q hk => h2 q (List.mem_of_getElem? hk)⟩
    unfold List.Nodup at h1
    rw [List.pairwise_iff_getElem] at h1
    obtain ⟨hli, hi2⟩ := List.getElem?_eq_some_iff.mp hi
    obtain ⟨hlj, hj2⟩ := List.getElem?_eq_some_iff.mp hj
    have hli' : i < (ws.map Prod.fst).length := by rw [List.length_map]; exact hli
    have hlj' : j < (ws.map Prod.fst).length := by rw [List.length_map]; exact hlj
    rcases Nat.lt_trichotomy i j with h | h | h
    · exact absurd (by rw [List.getElem_map, List.getElem_map, hi2, hj2]; exact hpq) (h1 i j hli' hlj' h)
    · exact h
    · exact absurd (by rw [List.getElem_map, List.getElem_map, hi2, hj2]; exact hpq.symm) (h1 j i hlj' hli' h)
section KP
variable {p : Program} {l : Launch} {e : Env} {R : Room} {s : State} {m : MethodId} {args : Array Value} {below : List Frame} {meth : Method} {c : Code} {H : Heap} {locs : List Loc} {cells slots : Nat} {Q : State → Prop} {pc : Nat} {ls : Array Slot} {rest st0 : List Value} {a : Nat} {cc : ByteArray} {nL : Nat} {own : String} {rt : Option FieldType} {wd : List Cond} {g : kT} {A : Nat → Prop} {ws : va_W}
theorem VW.perm {H0 : Heap} {ws' : va_W} (V : VW g A H0 H locs ws) (h : ws.Perm ws') : VW g A H0 H locs ws' :=
  ⟨va_P_iff.mpr fun q hq => va_P_iff.mp V.1 q (h.mem_iff.mpr hq), va_D_iff.mpr ⟨(h.map Prod.fst).nodup_iff.mp (va_D_iff.mp V.2.1).1, fun q hq => (va_D_iff.mp V.2.1).2 q (h.mem_iff.mpr hq)⟩, V.2.2⟩
theorem VW.left {H0 : Heap} {w1 w2 : va_W} (V : VW g A H0 H locs (w1 ++ w2)) : VW g A H0 H locs w1 := by
  have h := va_D_iff.mp V.2.1
  rw [List.map_append] at h
  exact ⟨va_P_iff.mpr fun q hq => va_P_iff.mp V.1 q (List.mem_append_left _ hq), va_D_iff.mpr ⟨(List.nodup_append.mp h.1).1, fun q hq => h.2 q (List.mem_append_left _ hq)⟩, V.2.2⟩
theorem VW.right {H0 : Heap} {w1 w2 : va_W} (V : VW g A H0 H locs (w1 ++ w2)) : VW g A H0 H locs w2 := by
  exact (V.perm List.perm_append_comm).left
/-- behind a call that had the part wc of the world -/
theorem kBackP {wc wr : va_W} {H1 : Heap} {locs1 : List Loc} {t : State} {S : Type} {w' : S → va_W} {u : S} (F : FX p s m meth c args cc nL own rt wd g A) (V : VW g A s.heap H locs (wr ++ wc)) (ht : t.heap = H1) (hB : kE g (va_A wc H.size) w' u t) (hk1 : ∀ q : Nat, q < H.size → ¬ va_A wc H.size q → H1[q]? = H[q]?) (hS : va_S A s.heap H1 locs1) : VW g A s.heap H1 locs1 (wr ++ w' u) := by
  obtain ⟨hP1, hD1⟩ := hB
  rw [ht] at hP1
  have hD := va_D_iff.mp V.2.1
  rw [List.map_append] at hD
  obtain ⟨hn1, hn2, hn3⟩ := List.nodup_append.mp hD.1
  have hWc : ∀ q, va_A wc H.size q → A q := by
    intro q hq
    rcases hq with ⟨k, e, h⟩ | h
    · exact hD.2 (q, e) (List.mem_append_right _ (List.mem_of_getElem? h))
    · exact F.aA q (Nat.le_trans V.2.2.1 h)
  have hlt : ∀ q ∈ wr, q.1 < H.size ∧ ¬ va_A wc H.size q.1 := by
    intro q hq
    have h1 := (va_P_iff.mp V.1 q (List.mem_append_left _ hq)).lt
    refine ⟨h1, ?_⟩
    rintro (⟨k, e, h⟩ | h)
    · exact hn3 q.1 (List.mem_map_of_mem hq) q.1 (List.mem_map_of_mem (List.mem_of_getElem? h) : (q.1, e).1 ∈ wc.map Prod.fst) rfl
    · omega
  have hD1' := va_D_iff.mp hD1
  refine ⟨va_P_iff.mpr fun q hq => ?_, va_D_iff.mpr ⟨?_, fun q hq => ?_⟩, hS⟩
  · rcases List.mem_append.mp hq with h | h
    · exact (va_P_iff.mp V.1 q (List.mem_append_left _ h)).kept (hk1 q.1 (hlt q h).1 (hlt q h).2)
    · exact va_P_iff.mp hP1 q h
  · rw [List.map_append]
    refine List.nodup_append.mpr ⟨hn1, hD1'.1, ?_⟩
    intro x hx y hy hxy
    obtain ⟨q, hq, rfl⟩ := List.mem_map.mp hx
    obtain ⟨q2, hq2, rfl⟩ := List.mem_map.mp hy
    exact (hlt q hq).2 (by rw [hxy]; exact hD1'.2 q2 hq2)
  · rcases List.mem_append.mp hq with h | h
    · exact hD.2 q (List.mem_append_left _ h)
    · exact hWc q.1 (hD1'.2 q h)
/-- a list, by its places in another order -/
theorem k_pl {α : Type} {ws wa wb : List α} (ia ib ic : List Nat) (ha : ia.map (fun i => ws[i]?) = wa.map some) (hb : ib.map (fun i => ws[i]?) = wb.map some) (hc : ic.map (fun i => ws[i]?) = ws.map some) (hp : (ia ++ ib).Perm ic) : (wa ++ wb).Perm ws := by
  have h1 := k_fm ha
  have h2 := k_fm hb
  have h3 := k_fm hc
  have h4 := hp.filterMap (fun i => ws[i]?)
  rw [List.filterMap_append, h1, h2, h3] at h4
  exact h4
theorem k_pl1 {α : Type} {ws wa : List α} (ia ic : List Nat) (ha : ia.map (fun i => ws[i]?) = wa.map some) (hc : ic.map (fun i => ws[i]?) = ws.map some) (hp : ia.Perm ic) : wa.Perm ws := by
  have h1 := k_fm ha
  have h3 := k_fm hc
  have h4 := hp.filterMap (fun i => ws[i]?)
  rw [h1, h3] at h4
  exact h4
theorem kRoomW {k n : Nat} (h1 : cells ≤ k) (h2 : slots ≤ n) {gg : JFrame} (kk : W p l e R s m args below meth c H locs k n Q gg) : W p l e R s m args below meth c H locs cells slots Q gg := W.widen h1 h2 kk
end KP
/-! the runs of calls over a world with a tail -/
section KT
variable {p : Program} {l : Launch} {e : Env} {R : Room} {s : State} {m : MethodId} {args : Array Value} {below : List Frame} {meth : Method} {c : Code} {H : Heap} {locs : List Loc} {cells slots : Nat} {Q : State → Prop} {pc : Nat} {ls : Array Slot} {rest st0 : List Value} {a : Nat} {cc : ByteArray} {nL : Nat} {own : String} {rt : Option FieldType} {wd : List Cond} {g : kT} {A : Nat → Prop} {ws : va_W}
  {y : MethodName} {wd' wd'' : List Cond} {fr lo mc ms : Nat} {As : List Value} {wc wr : va_W} {index maxL : Nat} {bytes : ByteArray} {ret : Option FieldType} {Qc : Array Value → State → Outcome → State → Prop} {free : Addr → Prop} {XC : String → State → State → Prop} {lv : List (Nat × Value)} {n : Nat} {hh : List (Nat × Nat × Nat × Nat)}
/-- what a callee finds at its start -/
theorem kStart (F : FX p s m meth c args cc nL own rt wd g A) (V : VW g A s.heap H locs ws) (hp : ws.Perm (wr ++ wc)) : ∀ U : State, U.heap = H → s.WarmedH U.vm → kB g wc H.size U := by
  intro U hU hW
  have V2 := V.perm hp
  have V9 := V2.right
  have hWc : ∀ q, va_A wc H.size q → A q := by
    intro q hq
    rcases hq with ⟨k, e, h⟩ | h
    · exact V9.2.1.2 k (q, e) h
    · exact F.aA q (Nat.le_trans V.2.2.1 h)
  have hZ9 : ZZ (va_A wc H.size) s H := (F.Z.kept V.2.2.2.1).narrow hWc
  exact ⟨by rw [hU], by rw [hU]; exact V9.1, va_K.moved hW.alike F.K, V9.2.1.weaken (fun _ _ _ _ => trivial), by rw [hU]; exact hZ9.warm hW⟩
theorem kFree (F : FX p s m meth c args cc nL own rt wd g A) (V : VW g A s.heap H locs ws) (hp : ws.Perm (wr ++ wc)) : ∀ q, va_A wc H.size q → A q := by
  intro q hq
  have V9 := (V.perm hp).right
  rcases hq with ⟨k, e, h⟩ | h
  · exact V9.2.1.2 k (q, e) h
  · exact F.aA q (Nat.le_trans V.2.2.1 h)
theorem kRunSP (F : FX p s m meth c args cc nL own rt wd g A) (V : VW g A s.heap H locs ws) (hls : lv_has ls nL lv) (hp : ws.Perm (wr ++ wc)) (hM : Met l y wd' (kR fr lo mc ms) (va_Pc As (kB g wc H.size)) Qc mc ms free) (gl : GoodIn wd (va_wsS own index y wd')) (hw : wd' = Cond.code y bytes maxL ret :: wd'')
    (hd : y.cls ≠ "java/lang/invoke/MethodHandle" ∧ y.cls ≠ "java/lang/invoke/VarHandle" ∧ (parseMethodDescriptor y.desc).map (fun d => d.parameters.length) = some As.length) (hR : fr + 1 ≤ R.frames ∧ 8 + (maxL + 11) + lo ≤ R.locals) (hst : st0 = As.reverse ++ rest) (hrest : (rest.map fun v => v.category).sum ≤ 8) (hf : cells + mc ≤ R.cells ∧ slots + ms ≤ R.slots) (hdg : decode cc pc = .ok (.invokestatic index, 3)) :
    va_Run p l e R s m args below meth c H locs cells slots mc ms (F0 m pc ls st0) rest (Qc As.toArray) free :=
  va_runS F.fix hM (va_cwS As.length F.ts gl hw rfl rfl hd hR) ⟨kB_blind, fun U hU hW => ⟨rfl, kStart F V hp U hU hW⟩⟩ rfl rfl hls.1 hst (lv_room hrest) hdg hf
theorem kRunVP (F : FX p s m meth c args cc nL own rt wd g A) (V : VW g A s.heap H locs ws) (hls : lv_has ls nL lv) (hp : ws.Perm (wr ++ wc)) {b ci qb : Nat} {C : String} {T : u_T} {N : Nat} {fs : List Value} (hc : vwCl[ci]? = some (C, T, N)) (hb : ws[qb]? = some (b, .inr (ci, fs))) (hM : Met l y wd' (kR fr lo mc ms) (va_Pc (.ref b :: As) (kB g wc H.size)) Qc mc ms free) (gl : GoodIn wd (wsV own index C y wd')) (hw : wd' = Cond.code y bytes maxL ret :: wd'')
    (hd : y.cls = C ∧ y.cls ≠ "java/lang/invoke/MethodHandle" ∧ y.cls ≠ "java/lang/invoke/VarHandle" ∧ (parseMethodDescriptor y.desc).map (fun d => d.parameters.length) = some As.length) (hR : fr + 1 ≤ R.frames ∧ 8 + (maxL + 11) + lo ≤ R.locals) (hst : st0 = As.reverse ++ .ref b :: rest) (hrest : (rest.map fun v => v.category).sum ≤ 8) (hf : cells + mc ≤ R.cells ∧ slots + ms ≤ R.slots) (hdg : decode cc pc = .ok (.invokevirtual index, 3)) :
    va_Run p l e R s m args below meth c H locs cells slots mc ms (F0 m pc ls st0) rest (Qc (Value.ref b :: As).toArray) free :=
  va_runV F.fix hM (cwV As.length F.ts gl hw rfl rfl hd hR) ⟨kB_blind, va_recv F.K V.1 hc hb, fun U hU hW => ⟨rfl, kStart F V hp U hU hW⟩⟩ rfl rfl hls.1 hst (lv_room hrest) hdg hf
/-- a virtual method that may throw -/
theorem kRunVX (F : FX p s m meth c args cc nL own rt wd g A) (V : VW g A s.heap H locs ws) (hls : lv_has ls nL lv) (hp : ws.Perm (wr ++ wc)) {b ci qb : Nat} {C : String} {T : u_T} {N : Nat} {fs : List Value} (hc : vwCl[ci]? = some (C, T, N)) (hb : ws[qb]? = some (b, .inr (ci, fs))) (hM : vx_Met l y wd' (kR fr lo mc ms) (va_Pc (.ref b :: As) (kB g wc H.size)) Qc XC mc ms free) (gl : GoodIn wd (wsV own index C y wd')) (hw : wd' = Cond.code y bytes maxL ret :: wd'')
    (hd : y.cls = C ∧ y.cls ≠ "java/lang/invoke/MethodHandle" ∧ y.cls ≠ "java/lang/invoke/VarHandle" ∧ (parseMethodDescriptor y.desc).map (fun d => d.parameters.length) = some As.length) (hR : fr + 1 ≤ R.frames ∧ 8 + (maxL + 11) + lo ≤ R.locals) (hst : st0 = As.reverse ++ .ref b :: rest) (hrest : (rest.map fun v => v.category).sum ≤ 8) (hf : cells + mc ≤ R.cells ∧ slots + ms ≤ R.slots) (hdg : decode cc pc = .ok (.invokevirtual index, 3)) :
    vx_Run p l e R s m args below meth c H locs cells slots mc ms (F0 m pc ls st0) rest (Qc (Value.ref b :: As).toArray) XC free :=
  vx_runV F.fix hM (cwV As.length F.ts gl hw rfl rfl hd hR) ⟨kB_blind, va_recv F.K V.1 hc hb, fun U hU hW => ⟨rfl, kStart F V hp U hU hW⟩⟩ rfl rfl hls.1 hst (lv_room hrest) hdg hf
/-- a static method with a table of its own -/
theorem kRunSW (F : FX p s m meth c args cc nL own rt wd g A) (V : VW g A s.heap H locs ws) (hls : lv_has ls nL lv) (hp : ws.Perm (wr ++ wc)) (hM : Met l y wd' (kR fr lo mc ms) (va_Pc As (kB g wc H.size)) Qc mc ms free) (gl : GoodIn wd (va_wsS own index y wd')) (hw : wd' = Cond.codeWith y bytes maxL ret hh :: wd'')
    (hd : y.cls ≠ "java/lang/invoke/MethodHandle" ∧ y.cls ≠ "java/lang/invoke/VarHandle" ∧ (parseMethodDescriptor y.desc).map (fun d => d.parameters.length) = some As.length) (hR : fr + 1 ≤ R.frames ∧ 8 + (maxL + 11) + lo ≤ R.locals) (hst : st0 = As.reverse ++ rest) (hrest : (rest.map fun v => v.category).sum ≤ 8) (hf : cells + mc ≤ R.cells ∧ slots + ms ≤ R.slots) (hdg : decode cc pc = .ok (.invokestatic index, 3)) :
    va_Run p l e R s m args below meth c H locs cells slots mc ms (F0 m pc ls st0) rest (Qc As.toArray) free :=
  vx_runSW F.fix hM (vx_cwSW As.length F.ts gl hw rfl rfl hd hR) ⟨kB_blind, fun U hU hW => ⟨rfl, kStart F V hp U hU hW⟩⟩ rfl rfl hls.1 hst (lv_room hrest) hdg hf
end KT

theorem k_arr {cI : ClassId} {N : Nat} {f f' : Nat → Value} (h : ∀ j, j < N → f j = f' j) : arrV cI N f = arrV cI N f' := by
  unfold arrV
  congr 1
  exact congrArg (fun z => Array.ofFn z) (funext fun j => h j.val j.isLt)
section KC
variable {p : Program} {l : Launch} {e : Env} {R : Room} {s : State} {m : MethodId} {args : Array Value} {below : List Frame} {meth : Method} {c : Code} {H : Heap} {locs : List Loc} {cells slots : Nat} {Q : State → Prop} {pc : Nat} {ls : Array Slot} {rest st0 : List Value} {a : Nat} {cc : ByteArray} {nL : Nat} {own : String} {rt : Option FieldType} {wd : List Cond} {g : kT} {A : Nat → Prop} {ws : va_W}
/-- a row's contents matter below its length alone -/
theorem VW.same {H0 : Heap} {i : Nat} {cA : ClassId} {x x' : vp_A} (V : VW g A H0 H locs (ws.set i (a, .inl (cA, x)))) (h : vp_cell cA x = vp_cell cA x') : VW g A H0 H locs (ws.set i (a, .inl (cA, x'))) := by
  have hm : (ws.set i (a, .inl (cA, x'))).map Prod.fst = (ws.set i (a, .inl (cA, x))).map Prod.fst := by rw [List.map_set, List.map_set]
  have hD := va_D_iff.mp V.2.1
  refine ⟨fun k q hk => ?_, va_D_iff.mpr ⟨by rw [hm]; exact hD.1, fun q hq => ?_⟩, V.2.2⟩
  · by_cases hi : k = i
    · subst hi
      by_cases hl : k < ws.length
      · rw [List.getElem?_set_self hl] at hk
        cases hk
        have h1 := V.1 k (a, .inl (cA, x)) (List.getElem?_set_self hl)
        show H[a]? = some (vp_cell cA x')
        rw [← h]
        exact h1
      · have : (ws.set k (a, .inl (cA, x')))[k]? = none := List.getElem?_eq_none (by rw [List.length_set]; omega)
        rw [this] at hk; cases hk
    · rw [List.getElem?_set_ne (Ne.symm hi)] at hk
      exact V.1 k q (by rw [List.getElem?_set_ne (Ne.symm hi)]; exact hk)
  · have h1 : q.1 ∈ (ws.set i (a, .inl (cA, x'))).map Prod.fst := List.mem_map_of_mem hq
    rw [hm] at h1
    obtain ⟨q2, h2, h3⟩ := List.mem_map.mp h1
    rw [← h3]
    exact hD.2 q2 h2
theorem kcpyi (F : FX p s m meth c args cc nL own rt wd g A) (V : VW g A s.heap H locs ws) (hls : ls.size = nL) {index : Nat} (w1 : Cond.methodLink own index arraycopyName ∈ wd) (w2 : Cond.native arraycopyName ∈ wd) (w3 : Cond.static arraycopyName ∈ wd) (w4 : Cond.initialized "java/lang/System" ∈ wd) (q0 q1 : Nat) {a0 n0 n1 : Nat} {f h : Nat → Int32} (ha0 : ws[q0]? = some (a0, .inl (g.2.1, n0, .inl f))) (ha1 : ws[q1]? = some (a, .inl (g.2.1, n1, .inl h))) {n : Int32} (h3 : ¬ n < 0) (h4 : n.toNatClampNeg = n1) (h5 : n1 ≤ n0) (hframes : 1 ≤ R.frames) (hlocals : (rest.map fun v => v.category).sum + (nativeFrameWords "java/lang/System" "arraycopy" 5 + 11) ≤ R.locals) (hdg : decode cc pc = .ok (.invokestatic index, 3))
    (kk : ∀ (H1 : Heap) (locs1 : List Loc), VW g A s.heap H1 locs1 (ws.set q1 (a, .inl (g.2.1, n1, .inl f))) → W p l e R s m args below meth c H1 locs1 cells slots Q (F0 m (pc + 3) ls rest)) : W p l e R s m args below meth c H locs cells slots Q (F0 m pc ls (.int n :: .int 0 :: .ref a :: .int 0 :: .ref a0 :: rest)) := by
  have e0 : (0 : Int32).toNatClampNeg = 0 := rfl
  refine va_copyi F.x F.b (F.ml.trans hls.symm) F.ow (F.ts _ w1) (F.ts _ w2) (F.ts _ w3) (F.ts _ w4) F.K V.1 V.2.1 V.2.2 q0 q1 0 0 ha0 ha1 rfl rfl rfl (by decide) (by decide) h3 (by rw [e0, h4]; omega) (by rw [e0, h4]; omega) (fun _ _ => rfl) hframes hlocals hdg (fun H1 locs1 hP hD hS => kk H1 locs1 ?_)
  refine VW.same (x := (n1, .inl (va_cpy f h (0 : Int32).toNatClampNeg (0 : Int32).toNatClampNeg n.toNatClampNeg))) ⟨hP, hD, hS⟩ ?_
  rw [vp_cell_i, vp_cell_i]
  refine k_arr fun j hj => ?_
  rw [e0, h4]
  unfold va_cpy
  rw [if_pos ⟨Nat.zero_le _, by omega⟩]
  simp
theorem kcpyl (F : FX p s m meth c args cc nL own rt wd g A) (V : VW g A s.heap H locs ws) (hls : ls.size = nL) {index : Nat} (w1 : Cond.methodLink own index arraycopyName ∈ wd) (w2 : Cond.native arraycopyName ∈ wd) (w3 : Cond.static arraycopyName ∈ wd) (w4 : Cond.initialized "java/lang/System" ∈ wd) (q0 q1 : Nat) {a0 n0 n1 : Nat} {f h : Nat → Int64} (ha0 : ws[q0]? = some (a0, .inl (g.2.2.1, n0, .inr (.inl f)))) (ha1 : ws[q1]? = some (a, .inl (g.2.2.1, n1, .inr (.inl h)))) {n : Int32} (h3 : ¬ n < 0) (h4 : n.toNatClampNeg = n1) (h5 : n1 ≤ n0) (hframes : 1 ≤ R.frames) (hlocals : (rest.map fun v => v.category).sum + (nativeFrameWords "java/lang/System" "arraycopy" 5 + 11) ≤ R.locals) (hdg : decode cc pc = .ok (.invokestatic index, 3))
    (kk : ∀ (H1 : Heap) (locs1 : List Loc), VW g A s.heap H1 locs1 (ws.set q1 (a, .inl (g.2.2.1, n1, .inr (.inl f)))) → W p l e R s m args below meth c H1 locs1 cells slots Q (F0 m (pc + 3) ls rest)) : W p l e R s m args below meth c H locs cells slots Q (F0 m pc ls (.int n :: .int 0 :: .ref a :: .int 0 :: .ref a0 :: rest)) := by
  have e0 : (0 : Int32).toNatClampNeg = 0 := rfl
  refine va_copyl F.x F.b (F.ml.trans hls.symm) F.ow (F.ts _ w1) (F.ts _ w2) (F.ts _ w3) (F.ts _ w4) F.K V.1 V.2.1 V.2.2 q0 q1 1 1 ha0 ha1 rfl rfl rfl (by decide) (by decide) h3 (by rw [e0, h4]; omega) (by rw [e0, h4]; omega) (fun _ _ => rfl) hframes hlocals hdg (fun H1 locs1 hP hD hS => kk H1 locs1 ?_)
  refine VW.same (x := (n1, .inr (.inl (va_cpy f h (0 : Int32).toNatClampNeg (0 : Int32).toNatClampNeg n.toNatClampNeg)))) ⟨hP, hD, hS⟩ ?_
  rw [vp_cell_l, vp_cell_l]
  refine k_arr fun j hj => ?_
  rw [e0, h4]
  unfold va_cpy
  rw [if_pos ⟨Nat.zero_le _, by omega⟩]
  simp
end KC
