/-! constructors: what is made comes to the end of the world -/
section KN
variable {p : Program} {l : Launch} {e : Env} {R : Room} {s : State} {m : MethodId} {args : Array Value} {below : List Frame} {meth : Method} {c : Code} {H : Heap} {locs : List Loc} {cells slots : Nat} {Q : State → Prop} {pc : Nat} {ls : Array Slot} {rest st0 : List Value} {a : Nat} {cc : ByteArray} {nL : Nat} {own : String} {rt : Option FieldType} {wd : List Cond} {g : kT} {A : Nat → Prop} {ws : va_W}
theorem k_cls {U : State} {tys : List (ClassId × FieldType)} {D : va_G} {cl : List vw_C} {cA cB : ClassId} {ty : FieldType} (h1 : va_K D cl (tys ++ [(cA, ty)]) U) {t0 : Nat} (h2 : va_K D cl tys U) (h3 : tys[t0]? = some (cB, ty)) (hty : va_RA U cA ty → va_RA U cB ty → cA = cB) : cA = cB := by
  have a1 := (h1.2 tys.length (cA, ty) (by simp)).2
  have a2 := (h2.2 t0 (cB, ty) h3).2
  exact hty a1 a2
theorem knewi (F : FX p s m meth c args cc nL own rt wd g A) (V : VW g A s.heap H locs ws) (hw : Cond.arrayClass .int ∈ wd) {n : Int32} (N' : Nat) (hn : ¬ n < 0) (hN : n.toNatClampNeg = N') (hb : N' * 4 ≤ 536870912) (hc : cells + 1 ≤ R.cells) (hs : slots + N' ≤ R.slots) (hdg : decode cc pc = .ok (.newarray .int, 2))
    (kk : ∀ (q : Nat) (H1 : Heap), VW g A s.heap H1 locs (ws ++ [(q, .inl (g.2.1, N', .inl (fun _ => 0)))]) → W p l e R s m args below meth c H1 locs (cells + 1) (slots + N') Q (F0 m (pc + 2) ls (.ref q :: rest))) : W p l e R s m args below meth c H locs cells slots Q (F0 m pc ls (.int n :: rest)) := by
  refine va_newa (atype := .int) (ty := .int) F.x F.b (F.ts _ hw) rfl F.K V.1 V.2.1 V.2.2 F.aA (a0 := (N', .inl (fun _ => 0))) (fun _ => rfl) hn hN hb hc hs hdg (fun q cA H1 hK hP hD hS => ?_)
  have e1 : cA = g.2.1 := k_cls hK F.K (t0 := 0) rfl (fun h1 h2 => Option.some.inj (h1.symm.trans h2))
  subst e1
  exact kk q H1 ⟨hP, hD, hS⟩
theorem knewl (F : FX p s m meth c args cc nL own rt wd g A) (V : VW g A s.heap H locs ws) (hw : Cond.arrayClass .long ∈ wd) {n : Int32} (N' : Nat) (hn : ¬ n < 0) (hN : n.toNatClampNeg = N') (hb : N' * 8 ≤ 536870912) (hc : cells + 1 ≤ R.cells) (hs : slots + N' ≤ R.slots) (hdg : decode cc pc = .ok (.newarray .long, 2))
    (kk : ∀ (q : Nat) (H1 : Heap), VW g A s.heap H1 locs (ws ++ [(q, .inl (g.2.2.1, N', .inr (.inl (fun _ => 0))))]) → W p l e R s m args below meth c H1 locs (cells + 1) (slots + N') Q (F0 m (pc + 2) ls (.ref q :: rest))) : W p l e R s m args below meth c H locs cells slots Q (F0 m pc ls (.int n :: rest)) := by
  refine va_newa (atype := .long) (ty := .long) F.x F.b (F.ts _ hw) rfl F.K V.1 V.2.1 V.2.2 F.aA (a0 := (N', .inr (.inl (fun _ => 0)))) (fun _ => rfl) hn hN hb hc hs hdg (fun q cA H1 hK hP hD hS => ?_)
  have e1 : cA = g.2.2.1 := k_cls hK F.K (t0 := 1) rfl (fun h1 h2 => Option.some.inj (h1.symm.trans h2))
  subst e1
  exact kk q H1 ⟨hP, hD, hS⟩
theorem knewq (F : FX p s m meth c args cc nL own rt wd g A) (V : VW g A s.heap H locs ws) {index : Nat} (hw : Cond.classLink own index "ChordDesk$State" ∈ wd) (hov : va_AO "ChordDesk$State" s) {n : Int32} (N' : Nat) (hn : ¬ n < 0) (hN : n.toNatClampNeg = N') (hb : N' * 4 ≤ 536870912) (hc : cells + 1 ≤ R.cells) (hs : slots + N' ≤ R.slots) (hdg : decode cc pc = .ok (.anewarray index, 3))
    (kk : ∀ (q : Nat) (H1 : Heap), VW g A s.heap H1 locs (ws ++ [(q, .inl (g.2.2.2, N', .inr (.inr (.inr (.inr (fun _ => none))))))]) → W p l e R s m args below meth c H1 locs (cells + 1) (slots + N') Q (F0 m (pc + 3) ls (.ref q :: rest))) : W p l e R s m args below meth c H locs cells slots Q (F0 m pc ls (.int n :: rest)) := by
  refine va_newq F.x F.b F.ow (F.ts _ hw) hov F.K V.1 V.2.1 V.2.2 F.aA hn hN hb hc hs hdg (fun q cA H1 hK hP hD hS => ?_)
  have e1 : cA = g.2.2.2 := k_cls hK F.K (t0 := 2) rfl (fun h1 h2 => by
    obtain ⟨_, _, -, -, -, h1⟩ := h1
    obtain ⟨_, _, -, -, -, h2⟩ := h2
    exact Option.some.inj (h1.symm.trans h2))
  subst e1
  exact kk q H1 ⟨hP, hD, hS⟩
theorem knew (F : FX p s m meth c args cc nL own rt wd g A) (V : VW g A s.heap H locs ws) (ci : Nat) {C : String} {T : u_T} {N index : Nat} (fs : List Value) {ty : Nat → FieldType} (hty : ∀ k, k < N → parseFieldDescriptor (T k).2.2.1 = some (ty k)) (hcl : vwCl[ci]? = some (C, T, N)) (hin : ∀ w ∈ u_ws C T N, w ∈ wd) (w1 : Cond.classLink own index C ∈ wd) (w2 : Cond.instantiable C N ∈ wd) (w3 : Cond.initialized C ∈ wd) (hfs : ∀ j, j < N → defaultValue (ty j) = vp_V fs j) (hc : cells + 1 ≤ R.cells) (hs : slots + N ≤ R.slots) (hdg : decode cc pc = .ok (.new index, 3))
    (kk : ∀ (q : Nat) (H1 : Heap), VW g A s.heap H1 locs (ws ++ [(q, .inr (ci, fs))]) → W p l e R s m args below meth c H1 locs (cells + 1) (slots + N) Q (F0 m (pc + 3) ls (.ref q :: rest))) : W p l e R s m args below meth c H locs cells slots Q (F0 m pc ls rest) :=
  va_new F.x F.b F.ts hin ty hty F.ow (F.ts _ w1) (F.ts _ w2) (F.ts _ w3) F.K V.1 V.2.1 V.2.2 F.aA hcl hfs hc hs hdg (fun q H1 hP hD hS => kk q H1 ⟨hP, hD, hS⟩)
theorem kputF (F : FX p s m meth c args cc nL own rt wd g A) (hnm0 : meth.name = "<init>") (V : VW g A s.heap H locs ws) (ci k q0 : Nat) {T : u_T} {N index : Nat} {fs : List Value} {v : Value} {ty0 : Nat → FieldType} (hty : ∀ k, k < N → parseFieldDescriptor (T k).2.2.1 = some (ty0 k)) (hnm : ∀ a, a < N → ∀ b, b < N → a ≠ b → (T a).2.1 ≠ (T b).2.1) (hc : vwCl[ci]? = some (own, T, N)) (he : ws[q0]? = some (a, .inr (ci, fs))) (hin : ∀ w ∈ u_ws own T N, w ∈ wd) (hlink : Cond.fieldLink own index own (T k).2.1 (T k).2.2.1 ∈ wd) (hk : k < N) (hT1 : (T k).1 = own) (hfin : (T k).2.2.2 = true) (hn : narrow (ty0 k) v = v) (hfit : fits (ty0 k) v = true) (hl : k < fs.length) (hdg : decode cc pc = .ok (.putfield index, 3))
    (kk : ∀ (H1 : Heap) (locs1 : List Loc), VW g A s.heap H1 locs1 (ws.set q0 (a, .inr (ci, fs.set k v))) → W p l e R s m args below meth c H1 locs1 cells slots Q (F0 m (pc + 3) ls rest)) : W p l e R s m args below meth c H locs cells slots Q (F0 m pc ls (v :: .ref a :: rest)) :=
  va_putF F.x F.b F.ts hin ty0 hty hnm F.ow F.K V.1 V.2.1 V.2.2 q0 he hc k hk (F.ts _ hlink) (fun x h => by rw [hT1] at h; exact h) hfin hnm0 hT1 (hty k hk) hn hfit hl hdg (fun H1 locs1 hP hD hS => kk H1 locs1 ⟨hP, hD, hS⟩)
theorem kobj (F : FX p s m meth c args cc nL own rt wd g A) (hls : ls.size = nL) {idx : Nat} (w1 : Cond.methodLink own idx objectInit ∈ wd) (w2 : Cond.instanceMethod objectInit ∈ wd) (w3 : Cond.code objectInit ⟨#[0xb1]⟩ 1 none ∈ wd) (hd : decode cc pc = .ok (.invokespecial idx, 3)) (hframes : 1 ≤ R.frames) (hlocals : (rest.map fun v => v.category).sum + 12 ≤ R.locals)
    (kk : W p l e R s m args below meth c H locs cells slots Q (F0 m (pc + 3) ls rest)) : W p l e R s m args below meth c H locs cells slots Q (F0 m pc ls (.ref a :: rest)) := by
  refine W.objInit F.x F.b F.ow (F.ts _ w1) (F.ts _ w2) (F.ts _ w3) rfl (hls.trans F.ml.symm) rfl hd hframes (by show 2 * 0 + _ + 12 ≤ _; omega) kk
variable {y : MethodName} {wd' wd'' : List Cond} {fr lo mc ms : Nat} {As : List Value} {wc wr : va_W} {index maxL : Nat} {bytes : ByteArray} {ret : Option FieldType} {lv : List (Nat × Value)} {S : Type} {w' : S → va_W}
/-- a constructor's call -/
theorem kIv {P : S → Prop} (F : FX p s m meth c args cc nL own rt wd g A) (hls : lv_has ls nL lv) (V : VW g A s.heap H locs (wr ++ wc)) (b : Nat) (hM : Kv l g y wd' fr lo mc ms [.ref b] wc P w') (gl : GoodIn wd wd') (hw : wd' = Cond.code y bytes maxL none :: wd'') (w1 : Cond.initialized y.cls ∈ wd) (w2 : Cond.methodLink own index y ∈ wd) (w3 : Cond.instanceMethod y ∈ wd) (hy : y.name = "<init>")
    (hd : y.cls ≠ "java/lang/invoke/MethodHandle" ∧ y.cls ≠ "java/lang/invoke/VarHandle" ∧ (parseMethodDescriptor y.desc).map (fun d => d.parameters.length) = some 0) (hRm : fr + 1 ≤ R.frames ∧ 8 + (maxL + 11) + lo ≤ R.locals) (hf : cells + mc ≤ R.cells ∧ slots + ms ≤ R.slots) (hrest : (rest.map fun v => v.category).sum ≤ 8) (hdg : decode cc pc = .ok (.invokespecial index, 3))
    (kk : ∀ (u : S) (H1 : Heap) (locs1 : List Loc), P u → VW g A s.heap H1 locs1 (wr ++ w' u) → W p l e R s m args below meth c H1 locs1 (cells + mc) (slots + ms) Q (F0 m (pc + 3) ls rest)) : W p l e R s m args below meth c H locs cells slots Q (F0 m pc ls (.ref b :: rest)) := by
  have hp : (wr ++ wc).Perm (wr ++ wc) := List.Perm.refl _
  have hr := va_runI (As := []) (rest := rest) (g := F0 m pc ls (.ref b :: rest)) (e := e) (below := below) (meth := meth) (l := l) (R := R) (H := H) (locs := locs) (cells := cells) (slots := slots) F.fix (hM H.size) (cwI 0 F.ts gl hw rfl rfl (F.ts _ w1) (F.ts _ w2) (F.ts _ w3) hy hd hRm) ⟨kB_blind, fun U hU hW => ⟨rfl, kStart F V hp U hU hW⟩⟩ rfl rfl hls.1 rfl (lv_room hrest) hdg hf
  have hFc := kFree F V hp
  refine va_callv hr V.2.2 (fun q _ h => hFc q h) hFc (fun u t H1 locs1 ht hvm hp9 hB hz1 hk1 hS => ?_)
  exact kk u _ _ hp9 (kBackP F V ht hB hk1 hS)
/-- .. of a nest mate's private one -/
theorem kIn {P : S → Prop} (F : FX p s m meth c args cc nL own rt wd g A) (hls : lv_has ls nL lv) (V : VW g A s.heap H locs (wr ++ wc)) (b : Nat) {host : String} (hM : Kv l g y wd' fr lo mc ms [.ref b] wc P w') (gl : GoodIn wd wd') (hw : wd' = Cond.code y bytes maxL none :: wd'') (w1 : Cond.initialized y.cls ∈ wd) (w2 : Cond.methodLinkNest own index y host ∈ kNest) (w3 : Cond.instanceMethod y ∈ wd) (hy : y.name = "<init>")
    (hd : y.cls ≠ "java/lang/invoke/MethodHandle" ∧ y.cls ≠ "java/lang/invoke/VarHandle" ∧ (parseMethodDescriptor y.desc).map (fun d => d.parameters.length) = some 0) (hRm : fr + 1 ≤ R.frames ∧ 8 + (maxL + 11) + lo ≤ R.locals) (hf : cells + mc ≤ R.cells ∧ slots + ms ≤ R.slots) (hrest : (rest.map fun v => v.category).sum ≤ 8) (hdg : decode cc pc = .ok (.invokespecial index, 3))
    (kk : ∀ (u : S) (H1 : Heap) (locs1 : List Loc), P u → VW g A s.heap H1 locs1 (wr ++ w' u) → W p l e R s m args below meth c H1 locs1 (cells + mc) (slots + ms) Q (F0 m (pc + 3) ls rest)) : W p l e R s m args below meth c H locs cells slots Q (F0 m pc ls (.ref b :: rest)) := by
  have hp : (wr ++ wc).Perm (wr ++ wc) := List.Perm.refl _
  have hr := va_runIN (As := []) (rest := rest) (g := F0 m pc ls (.ref b :: rest)) (e := e) (below := below) (meth := meth) (l := l) (R := R) (H := H) (locs := locs) (cells := cells) (slots := slots) F.fix (hM H.size) ⟨va_cnB 0 F.ts gl hw rfl rfl (F.Z.2.2.2.1 _ w2) (F.ts _ w1) hd hRm, hy, F.ts _ w3⟩ ⟨kB_blind, fun U hU hW => ⟨rfl, kStart F V hp U hU hW⟩⟩ rfl rfl hls.1 rfl (lv_room hrest) hdg hf
  have hFc := kFree F V hp
  refine va_callv hr V.2.2 (fun q _ h => hFc q h) hFc (fun u t H1 locs1 ht hvm hp9 hB hz1 hk1 hS => ?_)
  exact kk u _ _ hp9 (kBackP F V ht hB hk1 hS)
end KN
