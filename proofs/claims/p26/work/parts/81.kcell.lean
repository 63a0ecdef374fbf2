/-! the script's cell: its contract says that it comes back; the script lies outside the world -/
theorem kL_cellB {p : Program} {l : Launch} {e : Env} {s : State} {m : MethodId} {below : List Frame} {meth : Method} {c : Code} {Q : State → Prop} {b L j : Nat} {xs : Nat → Int32} {ls : Array Slot} (hL : L < 2 ^ 31) (hj : j < 2 ^ 31) (hx : p.tables.exec = Jvm.exec) (hb : c.code = cL_cell) (hown : s.vm.findClass yL_cell.cls = some m.cls) (hts : ∀ w ∈ wsL_cell, w.before ([.ref b, .int (nI j)] : List Value).toArray s = true) (hX : va_X b L xs s s.heap) (hl : lv_has ls 2 [(0, .ref b), (1, .int (nI j))])
    (fin : ∀ (v : Int32) (pc : Nat) (ls : Array Slot), decode cL_cell pc = .ok (.ireturn, 1) → W p l e (kR 0 0 0 0) s m ([.ref b, .int (nI j)] : List Value).toArray below meth c s.heap [] 0 0 Q (F0 m pc ls [.int v])) : W p l e (kR 0 0 0 0) s m ([.ref b, .int (nI j)] : List Value).toArray below meth c s.heap [] 0 0 Q (F0 m 0 ls []) := by
  have hbl : b < s.heap.size := by
    obtain ⟨scr, hcb, -⟩ := hX
    exact (Array.getElem?_eq_some_iff.mp hcb).1
  have hbA : ¬ va_A [] s.heap.size b := by
    rintro (⟨k, e, h⟩ | h)
    · simp at h
    · omega
  have hS : va_S (va_A [] s.heap.size) s.heap s.heap [] := va_S.rf
  refine lv_iload_n hx hb dL_cell_0 rfl (lv_at hl 1 rfl) ?_
  refine lv_aload_n hx hb dL_cell_1 rfl (lv_at hl 0 rfl) ?_
  refine va_slen hx hb hX hbl hbA hS dL_cell_2 ?_
  refine lv_icmp_ge (tgt := 12) hx hb dL_cell_3 (by decide) (fun c_3 => ?_) (fun c_3 => ?_)
  · refine lv_ldc (v := 1160258022) hx hb hown (hts (.constant RL 7 1160258022) (by decide +kernel)) dL_cell_12 ?_
    refine lv_iload_n hx hb dL_cell_14 rfl (lv_at hl 1 rfl) ?_
    refine lv_iconst (v := 1) hx hb dL_cell_15 (by decide) ?_
    refine lv_iadd hx hb dL_cell_16 ?_
    refine lv_imul hx hb dL_cell_17 ?_
    exact fin _ _ _ dL_cell_18
  · have hlt : j < L := Nat.not_le.mp (fun h => c_3 (nI_le h hj))
    refine lv_aload_n hx hb dL_cell_6 rfl (lv_at hl 0 rfl) ?_
    refine lv_iload_n hx hb dL_cell_7 rfl (lv_at hl 1 rfl) ?_
    refine va_sld hx hb hX hbl hbA hS (vp_in_nI hlt hL) dL_cell_8 ?_
    refine lv_goto (tgt := 18) hx hb dL_cell_9 (by decide) ?_
    exact fin _ _ _ dL_cell_18
theorem kL_cell (l : Launch) (g : kT) (b L : Nat) (xs : Nat → Int32) (hL : L < 2 ^ 31) (j : Nat) (hj : j < 2 ^ 31) : ∀ sz : Nat, Met l yL_cell wsL_cell (kR 0 0 0 0) (va_Pc [.ref b, .int (nI j)] (fun U => kB g [] sz U ∧ va_X b L xs U U.heap)) (va_Qi (fun _ (_ : Unit) => True) (kE g (va_A [] sz) (fun (_ : Unit) => [])) (va_A [] sz)) 0 0 (va_A [] sz) := by
  intro sz
  refine Met.ofW (cc := cL_cell) (maxL := 2) (ret := some .int) (by decide +kernel) rfl ?_
  intro p e s m args below meth c s₁ B hml hv
  obtain ⟨rfl, ⟨hsz, hP, hK, hD0, hZ⟩, hX⟩ := hv
  subst hsz
  have hts := atoms_spec (ws := wsL_cell) B.pre
  have hl := lv_entry [.ref b, .int (nI j)] (n := 2) (Nat.le_of_ble_eq_true rfl)
  rw [lg_entry_eq]
  generalize (lg_sl [.ref b, .int (nI j)] ++ List.replicate (2 - (lg_sl [.ref b, .int (nI j)]).length) Slot.unset).toArray = ls at hl ⊢
  have hS : va_S (va_A [] s.heap.size) s.heap s.heap [] := va_S.rf
  exact kL_cellB hL hj B.exec B.bytes (findClass_of_methodNamed B.named) hts hX hl
    (fun v pc ls hd => W.zret B.exec B.bytes B.returns rfl (fun t ht hW => ⟨⟨v, (), rfl, trivial, by rw [ht]; exact hP, hD0.self⟩, hS.F ht⟩) hS.2.2 hd B.notSynchronized)
theorem hdL_cell : yL_cell.cls ≠ "java/lang/invoke/MethodHandle" ∧ yL_cell.cls ≠ "java/lang/invoke/VarHandle" ∧ (parseMethodDescriptor yL_cell.desc).map (fun d => d.parameters.length) = some 2 := by decide +kernel
section KCELL
variable {p : Program} {l : Launch} {e : Env} {R : Room} {s : State} {m : MethodId} {args : Array Value} {below : List Frame} {meth : Method} {c : Code} {H : Heap} {locs : List Loc} {cells slots : Nat} {Q : State → Prop} {pc : Nat} {ls : Array Slot} {rest st0 : List Value} {cc : ByteArray} {nL : Nat} {own : String} {rt : Option FieldType} {wd : List Cond} {g : kT} {A : Nat → Prop} {ws : va_W} {index : Nat} {lv : List (Nat × Value)} {b L : Nat} {xs : Nat → Int32}
theorem kcell (F : FX p s m meth c args cc nL own rt wd g A) (hls : lv_has ls nL lv) (V : VW g A s.heap H locs ws) (hX : va_X b L xs s s.heap) (hbl : b < s.heap.size) (hbA : ¬ A b) (hL : L < 2 ^ 31) {j : Nat} (hj : j < 2 ^ 31) (gl : GoodIn wd (va_wsS own index yL_cell wsL_cell)) (hRm : 0 + 1 ≤ R.frames ∧ 8 + (2 + 11) + 0 ≤ R.locals) (hf : cells + 0 ≤ R.cells ∧ slots + 0 ≤ R.slots) (hrest : (rest.map fun v => v.category).sum ≤ 8) (hst : st0 = [.int (nI j), .ref b] ++ rest) (hdg : decode cc pc = .ok (.invokestatic index, 3))
    (kk : ∀ (v : Int32) (H1 : Heap) (locs1 : List Loc), VW g A s.heap H1 locs1 ws → W p l e R s m args below meth c H1 locs1 (cells + 0) (slots + 0) Q (F0 m (pc + 3) ls (.int v :: rest))) : W p l e R s m args below meth c H locs cells slots Q (F0 m pc ls st0) := by
  have hp : ws.Perm (ws ++ []) := by rw [List.append_nil]
  have blind : FrameBlind (va_Pc [.ref b, .int (nI j)] (fun U => kB g [] H.size U ∧ va_X b L xs U U.heap)) := fun a U gg mk q => by
    obtain ⟨q0, qB, qX⟩ := q
    exact ⟨q0, (kB_blind a U gg mk ⟨q0, qB⟩).2, va_X.moved (u := U) (U := U.calling gg mk a) (Vm.Alike.refl U.vm) qX⟩
  have start : ∀ U : State, U.heap = H → s.WarmedH U.vm → va_Pc [.ref b, .int (nI j)] (fun U => kB g [] H.size U ∧ va_X b L xs U U.heap) ([.ref b, .int (nI j)] : List Value).toArray U := fun U hU hW => by
    refine ⟨rfl, kStart F V hp U hU hW, ?_⟩
    rw [hU]
    exact va_X.moved hW.alike (hX.kept (V.2.2.2.1 b hbl hbA))
  have hr := va_runS (rest := rest) (g := F0 m pc ls st0) (e := e) (below := below) (meth := meth) (l := l) (R := R) (H := H) (locs := locs) (cells := cells) (slots := slots) F.fix (kL_cell l g b L xs hL j hj H.size) (va_cwS 2 F.ts gl rfl rfl rfl hdL_cell hRm) ⟨blind, start⟩ rfl rfl hls.1 hst (lv_room hrest) hdg hf
  have hFc : ∀ q, va_A [] H.size q → A q := va_free V.2.1 V.2.2 F.aA [] rfl
  refine va_calli hr V.2.2 (fun q _ h => hFc q h) hFc (fun r u t H1 locs1 ht hvm hp hB hz1 hk1 hS => ?_)
  exact kk r _ _ (kBack0 V hk1 hS)
end KCELL
