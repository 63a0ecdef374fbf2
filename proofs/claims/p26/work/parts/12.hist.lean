/-! the saved states: eight of them in a pool, the row of references says in which order -/
abbrev SV : Type := (Nat → Int64) × (Nat → Int64) × Int32 × (Nat → Int32) × (Nat → Int32) × (Nat → Int32) × (Nat → Int64) × Int32 × Int32 × Int32 × Int32 × Int32
def gSt (g : kT) (b : Nat → Nat) (v : SV) : va_W := gX8 g (b 0) (b 1) (b 2) ++ (gX1 g (b 1) (b 3) (b 4) v.1 v.2.1 v.2.2.1 ++ gX7 g (b 2) (b 5) (b 6) (b 7) (b 8) v.2.2.2.1 v.2.2.2.2.1 v.2.2.2.2.2.1 v.2.2.2.2.2.2.1 v.2.2.2.2.2.2.2.1 v.2.2.2.2.2.2.2.2.1 v.2.2.2.2.2.2.2.2.2.1 v.2.2.2.2.2.2.2.2.2.2.1 v.2.2.2.2.2.2.2.2.2.2.2)
def poolW (g : kT) (sa : Nat → Nat → Nat) (V : Nat → SV) : va_W := (List.range 8).flatMap (fun i => gSt g (sa i) (V i))
def poolR (g : kT) (sa : Nat → Nat → Nat) (V : Nat → SV) (j : Nat) : va_W := ((List.range 8).erase j).flatMap (fun i => gSt g (sa i) (V i))
abbrev gAS (g : kT) (a : Nat) (f : Nat → Option Nat) : va_W := [(a, .inl (g.2.2.2, 8, .inr (.inr (.inr (.inr f)))))]
def kPi (sa : Nat → Nat → Nat) (pi : Nat → Nat) : Nat → Option Nat := fun i => some (sa (pi i) 0)
def rot8 (pi : Nat → Nat) : Nat → Nat := fun i => if i < 7 then pi (i + 1) else if i = 7 then pi 0 else pi i
theorem k_fmc {α β : Type} {f g : α → List β} : ∀ (l : List α), (∀ x ∈ l, f x = g x) → l.flatMap f = l.flatMap g
  | [], _ => rfl
  | x :: l, h => by rw [List.flatMap_cons, List.flatMap_cons, h x List.mem_cons_self, k_fmc l (fun y hy => h y (List.mem_cons_of_mem _ hy))]
theorem k_perm1 {α : Type} (a s p r b : List α) (h : p.Perm (b ++ r)) : ((a ++ s) ++ p).Perm ((a ++ r) ++ (b ++ s)) := by
  refine (h.append_left (a ++ s)).trans ?_
  rw [List.append_assoc a s, List.append_assoc a r]
  refine List.Perm.append_left a ?_
  refine List.perm_append_comm.trans ?_
  rw [← List.append_assoc r b s]
  exact List.perm_append_comm.append_right s
theorem poolW_split (g : kT) (sa : Nat → Nat → Nat) (V : Nat → SV) {j : Nat} (hj : j < 8) : (poolW g sa V).Perm (gSt g (sa j) (V j) ++ poolR g sa V j) := by
  have h : (List.range 8).Perm (j :: (List.range 8).erase j) := List.perm_cons_erase (List.mem_range.mpr hj)
  exact h.flatMap_right _
theorem poolR_up (g : kT) (sa : Nat → Nat → Nat) (V : Nat → SV) (j : Nat) (x : SV) : poolR g sa (va_up V j x) j = poolR g sa V j := by
  unfold poolR
  have h : ∀ i ∈ (List.range 8).erase j, gSt g (sa i) (va_up V j x i) = gSt g (sa i) (V i) := by
    intro i hi
    have : i ≠ j := (List.Nodup.mem_erase_iff List.nodup_range).mp hi |>.1
    rw [va_up_ne _ _ this]
  exact k_fmc _ h
theorem poolW_up (g : kT) (sa : Nat → Nat → Nat) (V : Nat → SV) {j : Nat} (hj : j < 8) (x : SV) : (poolW g sa (va_up V j x)).Perm (gSt g (sa j) x ++ poolR g sa V j) := by
  have h := poolW_split g sa (va_up V j x) hj
  rw [poolR_up, show va_up V j x j = x by simp [va_up]] at h
  exact h
theorem pool_mem (g : kT) (sa : Nat → Nat → Nat) (V : Nat → SV) {j : Nat} (hj : j < 8) : ((sa j 0, .inr (5, [.ref (sa j 1), .ref (sa j 2)])) : Nat × va_E) ∈ poolW g sa V := by
  unfold poolW
  rw [List.mem_flatMap]
  exact ⟨j, List.mem_range.mpr hj, by unfold gSt; simp⟩
/-- a method that answers a reference or null -/
def Kq (l : Launch) (g : kT) (y : MethodName) (wd : List Cond) (fr lo mc ms : Nat) (as : List Value) (ws : va_W) {S : Type} (post : Option Nat → S → Prop) (w' : S → va_W) : Prop :=
  ∀ sz : Nat, Met l y wd (kR fr lo mc ms) (va_Pc as (kB g ws sz)) (va_Qq post (kE g (va_A ws sz) w') (va_A ws sz)) mc ms (va_A ws sz)
section KH
variable {p : Program} {l : Launch} {e : Env} {R : Room} {s : State} {m : MethodId} {args : Array Value} {below : List Frame} {meth : Method} {c : Code} {H : Heap} {locs : List Loc} {cells slots : Nat} {Q : State → Prop} {pc : Nat} {ls : Array Slot} {rest st0 : List Value} {a : Nat} {cc : ByteArray} {nL : Nat} {own : String} {rt : Option FieldType} {wd : List Cond} {g : kT} {A : Nat → Prop} {ws : va_W}
  {y : MethodName} {wd' wd'' : List Cond} {fr lo mc ms : Nat} {As : List Value} {wc wr : va_W} {index maxL : Nat} {bytes : ByteArray} {ret : Option FieldType} {lv : List (Nat × Value)} {S : Type} {w' : S → va_W}
theorem kVvP {P : S → Prop} (F : FX p s m meth c args cc nL own rt wd g A) (hls : lv_has ls nL lv) (V : VW g A s.heap H locs ws) (hp : ws.Perm (wr ++ wc)) (b ci qb : Nat) {C : String} {T : u_T} {N : Nat} {fs : List Value} (hcl : vwCl[ci]? = some (C, T, N)) (hbq : ws[qb]? = some (b, .inr (ci, fs))) (hM : Kv l g y wd' fr lo mc ms (.ref b :: As) wc P w') (gl : GoodIn wd (wsV own index C y wd')) (hw : wd' = Cond.code y bytes maxL ret :: wd'') (n : Nat) (hn : As.length = n)
    (hd : y.cls = C ∧ y.cls ≠ "java/lang/invoke/MethodHandle" ∧ y.cls ≠ "java/lang/invoke/VarHandle" ∧ (parseMethodDescriptor y.desc).map (fun d => d.parameters.length) = some n) (hRm : fr + 1 ≤ R.frames ∧ 8 + (maxL + 11) + lo ≤ R.locals) (hf : cells + mc ≤ R.cells ∧ slots + ms ≤ R.slots) (hrest : (rest.map fun v => v.category).sum ≤ 8) (hst : st0 = As.reverse ++ .ref b :: rest) (hdg : decode cc pc = .ok (.invokevirtual index, 3))
    (kk : ∀ (u : S) (H1 : Heap) (locs1 : List Loc), P u → VW g A s.heap H1 locs1 (wr ++ w' u) → W p l e R s m args below meth c H1 locs1 (cells + mc) (slots + ms) Q (F0 m (pc + 3) ls rest)) : W p l e R s m args below meth c H locs cells slots Q (F0 m pc ls st0) := by
  subst hn
  have hr := kRunVP (e := e) (below := below) F V hls hp hcl hbq (hM H.size) gl hw hd hRm hst hrest hf hdg
  have hFc := kFree F V hp
  refine va_callv hr V.2.2 (fun q _ h => hFc q h) hFc (fun u t H1 locs1 ht hvm hp9 hB hz1 hk1 hS => ?_)
  exact kk u _ _ hp9 (kBackP F (V.perm hp) ht hB hk1 hS)
theorem kVqP {P : Option Nat → S → Prop} (F : FX p s m meth c args cc nL own rt wd g A) (hls : lv_has ls nL lv) (V : VW g A s.heap H locs ws) (hp : ws.Perm (wr ++ wc)) (b ci qb : Nat) {C : String} {T : u_T} {N : Nat} {fs : List Value} (hcl : vwCl[ci]? = some (C, T, N)) (hbq : ws[qb]? = some (b, .inr (ci, fs))) (hM : Kq l g y wd' fr lo mc ms (.ref b :: As) wc P w') (gl : GoodIn wd (wsV own index C y wd')) (hw : wd' = Cond.code y bytes maxL ret :: wd'') (n : Nat) (hn : As.length = n)
    (hd : y.cls = C ∧ y.cls ≠ "java/lang/invoke/MethodHandle" ∧ y.cls ≠ "java/lang/invoke/VarHandle" ∧ (parseMethodDescriptor y.desc).map (fun d => d.parameters.length) = some n) (hRm : fr + 1 ≤ R.frames ∧ 8 + (maxL + 11) + lo ≤ R.locals) (hf : cells + mc ≤ R.cells ∧ slots + ms ≤ R.slots) (hrest : (rest.map fun v => v.category).sum ≤ 8) (hst : st0 = As.reverse ++ .ref b :: rest) (hdg : decode cc pc = .ok (.invokevirtual index, 3))
    (kk : ∀ (r : Option Nat) (u : S) (H1 : Heap) (locs1 : List Loc), P r u → VW g A s.heap H1 locs1 (wr ++ w' u) → W p l e R s m args below meth c H1 locs1 (cells + mc) (slots + ms) Q (F0 m (pc + 3) ls (va_rf r :: rest))) : W p l e R s m args below meth c H locs cells slots Q (F0 m pc ls st0) := by
  subst hn
  have hr := kRunVP (e := e) (below := below) F V hls hp hcl hbq (hM H.size) gl hw hd hRm hst hrest hf hdg
  have hFc := kFree F V hp
  refine va_callq hr V.2.2 (fun q _ h => hFc q h) hFc (fun r u t H1 locs1 ht hvm hp9 hB hz1 hk1 hS => ?_)
  exact kk r u _ _ hp9 (kBackP F (V.perm hp) ht hB hk1 hS)
theorem kaald (F : FX p s m meth c args cc nL own rt wd g A) (V : VW g A s.heap H locs ws) (q0 : Nat) {n : Nat} {f : Nat → Option Nat} (ha : ws[q0]? = some (a, .inl (g.2.2.2, n, .inr (.inr (.inr (.inr f)))))) {i : Int32} (hin : vp_in i n) (hdg : decode cc pc = .ok (.aaload, 1))
    (kk : W p l e R s m args below meth c H locs cells slots Q (F0 m (pc + 1) ls (va_rf (f i.toNatClampNeg) :: rest))) : W p l e R s m args below meth c H locs cells slots Q (F0 m pc ls (.int i :: .ref a :: rest)) :=
  va_aldq F.x F.b F.K V.1 q0 2 ha (C := "ChordDesk$State") rfl hin hdg kk
theorem kaast (F : FX p s m meth c args cc nL own rt wd g A) (V : VW g A s.heap H locs ws) (q0 : Nat) {n v : Nat} {vs : List Value} {f : Nat → Option Nat} (ha : ws[q0]? = some (a, .inl (g.2.2.2, n, .inr (.inr (.inr (.inr f)))))) (hv : (v, .inr (5, vs)) ∈ ws) {i : Int32} (hin : vp_in i n) (hdg : decode cc pc = .ok (.aastore, 1))
    (kk : ∀ (H1 : Heap) (locs1 : List Loc), VW g A s.heap H1 locs1 (ws.set q0 (a, .inl (g.2.2.2, n, .inr (.inr (.inr (.inr (va_up f i.toNatClampNeg (some v)))))))) → W p l e R s m args below meth c H1 locs1 cells slots Q (F0 m (pc + 1) ls rest)) : W p l e R s m args below meth c H locs cells slots Q (F0 m pc ls (.ref v :: .int i :: .ref a :: rest)) := by
  obtain ⟨k, hk⟩ := List.getElem?_of_mem hv
  exact va_astq F.x F.b F.K V.1 V.2.1 V.2.2 q0 2 k 5 (r := (RX8, TX8, 2)) ha rfl hk rfl hin hdg (fun H1 locs1 hP hD hS => kk H1 locs1 ⟨hP, hD, hS⟩)
theorem kaalen (F : FX p s m meth c args cc nL own rt wd g A) (V : VW g A s.heap H locs ws) (q0 : Nat) {n : Nat} {f : Nat → Option Nat} (ha : ws[q0]? = some (a, .inl (g.2.2.2, n, .inr (.inr (.inr (.inr f)))))) (hdg : decode cc pc = .ok (.arraylength, 1))
    (kk : W p l e R s m args below meth c H locs cells slots Q (F0 m (pc + 1) ls (.int (nI n) :: rest))) : W p l e R s m args below meth c H locs cells slots Q (F0 m pc ls (.ref a :: rest)) :=
  va_alen F.x F.b F.K V.1 q0 2 ha (ty := .object "ChordDesk$State") rfl rfl hdg kk
end KH
theorem hdX2_stateAt : yX2_stateAt.cls = RX2 ∧ yX2_stateAt.cls ≠ "java/lang/invoke/MethodHandle" ∧ yX2_stateAt.cls ≠ "java/lang/invoke/VarHandle" ∧ (parseMethodDescriptor yX2_stateAt.desc).map (fun d => d.parameters.length) = some 1 := by decide +kernel
theorem hdX2_dropOldest : yX2_dropOldest.cls = RX2 ∧ yX2_dropOldest.cls ≠ "java/lang/invoke/MethodHandle" ∧ yX2_dropOldest.cls ≠ "java/lang/invoke/VarHandle" ∧ (parseMethodDescriptor yX2_dropOldest.desc).map (fun d => d.parameters.length) = some 0 := by decide +kernel
theorem hdX2_push : yX2_push.cls = RX2 ∧ yX2_push.cls ≠ "java/lang/invoke/MethodHandle" ∧ yX2_push.cls ≠ "java/lang/invoke/VarHandle" ∧ (parseMethodDescriptor yX2_push.desc).map (fun d => d.parameters.length) = some 1 := by decide +kernel
theorem iX2_stateAt_X2 : ∀ w ∈ u_ws RX2 TX2 2, w ∈ wsX2_stateAt := by decide +kernel
theorem iX2_dropOldest_X2 : ∀ w ∈ u_ws RX2 TX2 2, w ∈ wsX2_dropOldest := by decide +kernel
theorem iX2_push_X2 : ∀ w ∈ u_ws RX2 TX2 2, w ∈ wsX2_push := by decide +kernel
theorem fX2_stateAt_11 : Cond.fieldLink RX2 11 RX2 "states" "[LChordDesk$State;" ∈ wsX2_stateAt := by decide +kernel
theorem fX2_dropOldest_11 : Cond.fieldLink RX2 11 RX2 "states" "[LChordDesk$State;" ∈ wsX2_dropOldest := by decide +kernel
theorem fX2_dropOldest_17 : Cond.fieldLink RX2 17 RX2 "size" "I" ∈ wsX2_dropOldest := by decide +kernel
theorem fX2_push_11 : Cond.fieldLink RX2 11 RX2 "states" "[LChordDesk$State;" ∈ wsX2_push := by decide +kernel
theorem fX2_push_17 : Cond.fieldLink RX2 17 RX2 "size" "I" ∈ wsX2_push := by decide +kernel
set_option maxHeartbeats 4000000 in
set_option maxRecDepth 100000 in
theorem kX2_stateAt (l : Launch) (g : kT) (a_this a_states : Nat) (size : Int32) (f : Nat → Option Nat) (p1 : Int32) : Kq l g yX2_stateAt wsX2_stateAt 0 0 0 0 [.ref a_this, .int p1] (gX2 g a_this a_states size ++ gAS g a_states f) (fun r (_ : Unit) => ∀ k : Nat, k < 8 → p1 = nI k → r = f k) (fun _ => gX2 g a_this a_states size ++ gAS g a_states f) := by
  intro sz
  refine Met.ofW (cc := cX2_stateAt) (maxL := 2) (ret := some (.object "ChordDesk$State")) (by decide +kernel) rfl ?_
  intro p e s m args below meth c s₁ B hml hv
  obtain ⟨rfl, hsz, hP, hK, hD0, hZ⟩ := hv
  subst hsz
  have hts := atoms_spec (ws := wsX2_stateAt) B.pre
  have hl := lv_entry ([.ref a_this, .int p1]) (n := 2) (Nat.le_of_ble_eq_true rfl)
  rw [lg_entry_eq]
  generalize (lg_sl ([.ref a_this, .int p1]) ++ List.replicate (2 - (lg_sl ([.ref a_this, .int p1])).length) Slot.unset).toArray = ls at hl ⊢
  have hl : lv_has ls 2 [(0, .ref a_this), (1, .int p1)] := hl
  have F : FX p s m meth c _ cX2_stateAt 2 RX2 (some (.object "ChordDesk$State")) wsX2_stateAt g (va_A (gX2 g a_this a_states size ++ gAS g a_states f) s.heap.size) := ⟨B.exec, B.bytes, hml, findClass_of_methodNamed B.named, hts, hK, fun q h => Or.inr h, B.notSynchronized, B.returns, hZ⟩
  have V : VW g (va_A (gX2 g a_this a_states size ++ gAS g a_states f) s.heap.size) s.heap s.heap [] (gX2 g a_this a_states size ++ gAS g a_states f) := ⟨hP, hD0.self, va_S.rf⟩
  have hx := F.x
  have hb := F.b
  have fin : ∀ (r : Option Nat), (∀ k : Nat, k < 8 → p1 = nI k → r = f k) → W p l e (kR 0 0 0 0) s m ([.ref a_this, .int p1] : List Value).toArray below meth c s.heap [] 0 0 (MQ below (va_Qq (fun r (_ : Unit) => ∀ k : Nat, k < 8 → p1 = nI k → r = f k) (kE g (va_A (gX2 g a_this a_states size ++ gAS g a_states f) s.heap.size) (fun _ => gX2 g a_this a_states size ++ gAS g a_states f)) (va_A (gX2 g a_this a_states size ++ gAS g a_states f) s.heap.size)) ([.ref a_this, .int p1] : List Value).toArray s 0 0 (va_A (gX2 g a_this a_states size ++ gAS g a_states f) s.heap.size)) (F0 m 23 ls [va_rf r]) := by
    intro r hr
    exact W.aret (v := va_rf r) hx hb B.returns (Or.inl ⟨_, rfl⟩) (by cases r with | none => exact Or.inl rfl | some a => exact Or.inr ⟨a, rfl⟩) (fun t ht hW => ⟨⟨r, (), rfl, hr, by rw [ht]; exact V.1, V.2.1⟩, V.2.2.F ht⟩) V.2.2.2.2 dX2_stateAt_23 B.notSynchronized
  have nul : ¬ (∃ k : Nat, k < 8 ∧ p1 = nI k) → W p l e (kR 0 0 0 0) s m ([.ref a_this, .int p1] : List Value).toArray below meth c s.heap [] 0 0 (MQ below (va_Qq (fun r (_ : Unit) => ∀ k : Nat, k < 8 → p1 = nI k → r = f k) (kE g (va_A (gX2 g a_this a_states size ++ gAS g a_states f) s.heap.size) (fun _ => gX2 g a_this a_states size ++ gAS g a_states f)) (va_A (gX2 g a_this a_states size ++ gAS g a_states f) s.heap.size)) ([.ref a_this, .int p1] : List Value).toArray s 0 0 (va_A (gX2 g a_this a_states size ++ gAS g a_states f) s.heap.size)) (F0 m 22 ls []) := by
    intro hn
    refine lv_null hx hb dX2_stateAt_22 ?_
    exact fin none (fun k h1 h2 => absurd ⟨k, h1, h2⟩ hn)
  refine lv_iload_n hx hb dX2_stateAt_0 rfl (lv_at hl 1 rfl) ?_
  refine lv_if_lt (tgt := 22) hx hb dX2_stateAt_1 (by decide) (fun c_1 => ?_) (fun c_1 => ?_)
  · exact nul (fun ⟨k, h1, h2⟩ => nI_pos (n := k) (by omega) (by rw [← h2]; exact c_1))
  refine lv_iload_n hx hb dX2_stateAt_4 rfl (lv_at hl 1 rfl) ?_
  refine lv_aload_n hx hb dX2_stateAt_5 rfl (lv_at hl 0 rfl) ?_
  refine kget F V 2 0 0 rfl rfl iX2_stateAt_X2 fX2_stateAt_11 (by decide) rfl rfl dX2_stateAt_6 ?_
  refine kaalen F V 1 rfl dX2_stateAt_9 ?_
  refine lv_icmp_ge (tgt := 22) hx hb dX2_stateAt_10 (by decide) (fun c_10 => ?_) (fun c_10 => ?_)
  · exact nul (fun ⟨k, h1, h2⟩ => by rw [h2] at c_10; have := (nI_leI (by omega) (by omega)).mp c_10; omega)
  obtain ⟨j, hj0, hj⟩ := nI_of c_1
  have hj8 : j < 8 := by
    rw [hj] at c_10
    exact Nat.not_le.mp (fun h => c_10 ((nI_leI (by omega) hj0).mpr h))
  have hin : vp_in p1 8 := by rw [hj]; exact vp_in_nI hj8 (by omega)
  refine lv_aload_n hx hb dX2_stateAt_13 rfl (lv_at hl 0 rfl) ?_
  refine kget F V 2 0 0 rfl rfl iX2_stateAt_X2 fX2_stateAt_11 (by decide) rfl rfl dX2_stateAt_14 ?_
  refine lv_iload_n hx hb dX2_stateAt_17 rfl (lv_at hl 1 rfl) ?_
  refine kaald F V 1 rfl hin dX2_stateAt_18 ?_
  refine lv_goto (tgt := 23) hx hb dX2_stateAt_19 (by decide) ?_
  refine fin _ (fun k h1 h2 => ?_)
  rw [h2, nI_clamp (by omega)]

/-- the row of references with the first k - 1 moved down -/
def rotf (f : Nat → Option Nat) (k : Nat) : Nat → Option Nat := fun i => if i + 1 < k then f (i + 1) else f i
theorem rotf_step (f : Nat → Option Nat) {k : Nat} (h : 1 ≤ k) : va_up (rotf f k) (k - 1) (rotf f k k) = rotf f (k + 1) := by
  funext i
  unfold va_up rotf
  by_cases h1 : i = k - 1
  · subst h1
    rw [if_pos rfl, if_neg (by omega), if_pos (by omega), show k - 1 + 1 = k by omega]
  · rw [if_neg h1]
    by_cases h2 : i + 1 < k
    · rw [if_pos h2, if_pos (by omega)]
    · rw [if_neg h2, if_neg (by omega)]
theorem rotf_end (sa : Nat → Nat → Nat) (pi : Nat → Nat) : va_up (rotf (kPi sa pi) 8) 7 (kPi sa pi 0) = kPi sa (rot8 pi) := by
  funext i
  unfold va_up rotf kPi rot8
  by_cases h1 : i = 7
  · subst h1; rfl
  · rw [if_neg h1]
    by_cases h2 : i + 1 < 8
    · rw [if_pos h2, if_pos (by omega)]
    · rw [if_neg h2, if_neg (by omega), if_neg h1]
theorem rotf_1 (f : Nat → Option Nat) : rotf f 1 = f := by
  funext i
  unfold rotf
  rw [if_neg (by omega)]
theorem kPi_rotf {sa : Nat → Nat → Nat} {pi : Nat → Nat} (hpi : ∀ i, i < 8 → pi i < 8) (k : Nat) {i : Nat} (hi : i < 8) (hk : k ≤ 8) : ∃ j : Nat, j < 8 ∧ rotf (kPi sa pi) k i = some (sa j 0) := by
  unfold rotf kPi
  by_cases h : i + 1 < k
  · rw [if_pos h]; exact ⟨_, hpi _ (by omega), rfl⟩
  · rw [if_neg h]; exact ⟨_, hpi _ hi, rfl⟩
set_option maxHeartbeats 4000000 in
set_option maxRecDepth 100000 in
theorem kX2_dropOldest (l : Launch) (g : kT) (a_this a_states : Nat) (sa : Nat → Nat → Nat) (pi : Nat → Nat) (V0 : Nat → SV) (size : Int32) (hpi : ∀ i, i < 8 → pi i < 8) : Kv l g yX2_dropOldest wsX2_dropOldest 1 30 0 0 [.ref a_this] ((gX2 g a_this a_states size ++ gAS g a_states (kPi sa pi)) ++ poolW g sa V0) (fun (_ : Unit) => True) (fun _ => (gX2 g a_this a_states (size - 1) ++ gAS g a_states (kPi sa (rot8 pi))) ++ poolW g sa V0) := by
  refine Kv.mk (cc := cX2_dropOldest) (nL := 3) (by decide +kernel) rfl (Nat.le_of_ble_eq_true rfl) ?_
  intro p e s m below meth c A Q ls F hl V ret _
  have hx := F.x
  have hb := F.b
  have hl : lv_has ls 3 [(0, .ref a_this)] := hl
  have B8 : ∀ (n k : Nat), 1 ≤ k → k ≤ 8 → 8 - k < n → ∀ {H : Heap} {locs : List Loc} {ls : Array Slot} (V : VW g A s.heap H locs ((gX2 g a_this a_states size ++ gAS g a_states (rotf (kPi sa pi) k)) ++ poolW g sa V0)) (hl : lv_has ls 3 [(0, .ref a_this), (1, .ref (sa (pi 0) 0)), (2, .int (nI k))]), W p l e (kR 1 30 0 0) s m ([.ref a_this] : List Value).toArray below meth c H locs 0 0 Q (F0 m 8 ls []) := by
    intro n
    induction n with
    | zero => intro k h1 h2 h3; omega
    | succ n ih =>
      intro k h1 h2 h3 H locs ls V hl
      refine lv_iload_n hx hb dX2_dropOldest_8 rfl (lv_at hl 2 rfl) ?_
      refine lv_aload_n hx hb dX2_dropOldest_9 rfl (lv_at hl 0 rfl) ?_
      refine kget F V 2 0 0 rfl rfl iX2_dropOldest_X2 fX2_dropOldest_11 (by decide) rfl rfl dX2_dropOldest_10 ?_
      refine kaalen F V 1 rfl dX2_dropOldest_13 ?_
      refine lv_icmp_ge (tgt := 37) hx hb dX2_dropOldest_14 (by decide) (fun c_14 => ?_) (fun c_14 => ?_)
      · have hk8 : k = 8 := by have := (nI_leI (a := 8) (b := k) (by omega) (by omega)).mp c_14; omega
        subst hk8
        refine lv_aload_n hx hb dX2_dropOldest_37 rfl (lv_at hl 0 rfl) ?_
        refine kget F V 2 0 0 rfl rfl iX2_dropOldest_X2 fX2_dropOldest_11 (by decide) rfl rfl dX2_dropOldest_38 ?_
        refine kaalen F V 1 rfl dX2_dropOldest_41 ?_
        refine lv_if_le (tgt := 58) hx hb dX2_dropOldest_42 (by decide) (fun c_42 => absurd c_42 (by decide)) (fun c_42 => ?_)
        refine lv_aload_n hx hb dX2_dropOldest_45 rfl (lv_at hl 0 rfl) ?_
        refine kget F V 2 0 0 rfl rfl iX2_dropOldest_X2 fX2_dropOldest_11 (by decide) rfl rfl dX2_dropOldest_46 ?_
        refine lv_aload_n hx hb dX2_dropOldest_49 rfl (lv_at hl 0 rfl) ?_
        refine kget F V 2 0 0 rfl rfl iX2_dropOldest_X2 fX2_dropOldest_11 (by decide) rfl rfl dX2_dropOldest_50 ?_
        refine kaalen F V 1 rfl dX2_dropOldest_53 ?_
        refine lv_iconst (v := 1) hx hb dX2_dropOldest_54 (by decide) ?_
        refine lv_isub hx hb dX2_dropOldest_55 ?_
        refine lv_aload_n hx hb dX2_dropOldest_56 rfl (lv_at hl 1 rfl) ?_
        refine kaast F V 1 rfl (List.mem_append_right _ (pool_mem g sa V0 (hpi 0 (by omega)))) (show vp_in (nI 8 - 1) 8 from by rw [show nI 8 - 1 = nI 7 from pk_sub (a := 8) (b := 1) (by omega)]; exact vp_in_nI (by omega) (by omega)) dX2_dropOldest_57 (fun H locs V => ?_)
        have V : VW g A s.heap H locs ((gX2 g a_this a_states size ++ gAS g a_states (va_up (rotf (kPi sa pi) 8) 7 (kPi sa pi 0))) ++ poolW g sa V0) := V
        rw [rotf_end] at V
        refine lv_aload_n hx hb dX2_dropOldest_58 rfl (lv_at hl 0 rfl) ?_
        refine lv_dup hx hb dX2_dropOldest_59 rfl ?_
        refine kget F V 2 1 0 rfl rfl iX2_dropOldest_X2 fX2_dropOldest_17 (by decide) rfl rfl dX2_dropOldest_60 ?_
        refine lv_iconst (v := 1) hx hb dX2_dropOldest_63 (by decide) ?_
        refine lv_isub hx hb dX2_dropOldest_64 ?_
        refine kput F V 2 1 0 tyX2_ok nmX2 rfl rfl iX2_dropOldest_X2 fX2_dropOldest_17 (by decide) rfl rfl rfl rfl (Nat.le_of_ble_eq_true rfl) dX2_dropOldest_65 (fun H locs V => ?_)
        have V : VW g A s.heap H locs ((gX2 g a_this a_states (size - 1) ++ gAS g a_states (kPi sa (rot8 pi))) ++ poolW g sa V0) := V
        exact ret () _ _ _ _ dX2_dropOldest_68 V trivial
      · have hk8 : k < 8 := Nat.not_le.mp (fun h => c_14 ((nI_leI (by omega) (by omega)).mpr h))
        obtain ⟨j, hj, ej⟩ := kPi_rotf (sa := sa) hpi k hk8 h2
        refine lv_aload_n hx hb dX2_dropOldest_17 rfl (lv_at hl 0 rfl) ?_
        refine kget F V 2 0 0 rfl rfl iX2_dropOldest_X2 fX2_dropOldest_11 (by decide) rfl rfl dX2_dropOldest_18 ?_
        refine lv_iload_n hx hb dX2_dropOldest_21 rfl (lv_at hl 2 rfl) ?_
        refine lv_iconst (v := 1) hx hb dX2_dropOldest_22 (by decide) ?_
        refine lv_isub hx hb dX2_dropOldest_23 ?_
        refine lv_aload_n hx hb dX2_dropOldest_24 rfl (lv_at hl 0 rfl) ?_
        refine kget F V 2 0 0 rfl rfl iX2_dropOldest_X2 fX2_dropOldest_11 (by decide) rfl rfl dX2_dropOldest_25 ?_
        refine lv_iload_n hx hb dX2_dropOldest_28 rfl (lv_at hl 2 rfl) ?_
        refine kaald F V 1 rfl (vp_in_nI hk8 (by omega)) dX2_dropOldest_29 ?_
        rw [nI_clamp (show k < 2 ^ 31 by omega), ej]
        have e1 : nI k - 1 = nI (k - 1) := pk_sub (a := k) (b := 1) h1
        rw [e1]
        refine kaast F V 1 rfl (List.mem_append_right _ (pool_mem g sa V0 hj)) (vp_in_nI (n := k - 1) (by omega) (by omega)) dX2_dropOldest_30 (fun H locs V => ?_)
        rw [nI_clamp (show k - 1 < 2 ^ 31 by omega), ← ej, rotf_step _ h1] at V
        have V : VW g A s.heap H locs ((gX2 g a_this a_states size ++ gAS g a_states (rotf (kPi sa pi) (k + 1))) ++ poolW g sa V0) := V
        refine lv_iinc (v := nI (k + 1)) (lv' := [(2, .int (nI (k + 1))), (0, .ref a_this), (1, .ref (sa (pi 0) 0))]) hx hb dX2_dropOldest_31 hl (k := 2) rfl (nI_1 k) (by decide) rfl (fun ls hl => ?_)
        refine lv_goto (tgt := 8) hx hb dX2_dropOldest_34 (by decide) ?_
        exact ih (k + 1) (by omega) (by omega) (by omega) V (lv_sub hl [1, 2, 0] rfl)
  refine lv_aload_n hx hb dX2_dropOldest_0 rfl (lv_at hl 0 rfl) ?_
  refine lv_iconst (v := 0) hx hb dX2_dropOldest_1 (by decide) ?_
  refine kVqP (rest := []) (As := [.int 0]) F hl V (wr := poolW g sa V0) (List.perm_append_comm) a_this 2 0 rfl rfl (kX2_stateAt l g a_this a_states size (kPi sa pi) 0) gX2_dropOldest_X2_stateAt rfl 1 rfl hdX2_stateAt ⟨Nat.le_of_ble_eq_true rfl, Nat.le_of_ble_eq_true rfl⟩ ⟨Nat.le_of_ble_eq_true rfl, Nat.le_of_ble_eq_true rfl⟩ (Nat.le_of_ble_eq_true rfl) rfl dX2_dropOldest_2 (fun r _ H locs hr V => ?_)
  have hr0 : r = some (sa (pi 0) 0) := hr 0 (by omega) rfl
  subst hr0
  have V := V.perm List.perm_append_comm
  refine lv_astore_n (lv' := [(1, .ref (sa (pi 0) 0)), (0, .ref a_this)]) hx hb dX2_dropOldest_5 rfl hl (by decide) rfl (fun ls hl => ?_)
  refine lv_iconst (v := 1) hx hb dX2_dropOldest_6 (by decide) ?_
  refine lv_istore_n (lv' := [(2, .int 1), (1, .ref (sa (pi 0) 0)), (0, .ref a_this)]) hx hb dX2_dropOldest_7 rfl hl (by decide) rfl (fun ls hl => ?_)
  exact B8 8 1 (by omega) (by omega) (by omega) (by rw [rotf_1]; exact V) (lv_sub hl [2, 1, 0] rfl)

def wX2_push (o1 : Nat → Int64) (dw : Nat → Int64) (dn : Int32) (s1 : Nat → Int32) (s2 : Nat → Int32) (s3 : Nat → Int32) (s4 : Nat → Int64) (n1 : Int32) (n2 : Int32) (n3 : Int32) (n4 : Int32) (n5 : Int32) (P : (Nat → Nat) → (Nat → SV) → Int32 → Prop) (pi : Nat → Nat) (V : Nat → SV) (size : Int32) : Prop := (∀ i, i < 8 → pi i < 8) ∧ ∃ k : Nat, size = nI k ∧ k ≤ 8 ∧ (k < 8 → P pi (va_up V (pi k) (o1, dw, dn, s1, s2, s3, s4, n1, n2, n3, n4, n5)) (nI (k + 1))) ∧ (k = 8 → P (rot8 pi) (va_up V (rot8 pi 7) (o1, dw, dn, s1, s2, s3, s4, n1, n2, n3, n4, n5)) (nI 8))
theorem rot8_lt {pi : Nat → Nat} (h : ∀ i, i < 8 → pi i < 8) : ∀ i, i < 8 → rot8 pi i < 8 := by
  intro i hi
  unfold rot8
  by_cases h1 : i < 7
  · rw [if_pos h1]; exact h _ (by omega)
  · rw [if_neg h1, if_pos (by omega)]; exact h _ (by omega)
theorem wX8_copyFrom_ok (o1 : Nat → Int64) (dw : Nat → Int64) (dn : Int32) (s1 : Nat → Int32) (s2 : Nat → Int32) (s3 : Nat → Int32) (s4 : Nat → Int64) (n1 : Int32) (n2 : Int32) (n3 : Int32) (n4 : Int32) (n5 : Int32) (P : (Nat → Int64) → (Nat → Int64) → Int32 → (Nat → Int32) → (Nat → Int32) → (Nat → Int32) → (Nat → Int64) → Int32 → Int32 → Int32 → Int32 → Int32 → Prop) (u : SV) (h : P o1 dw dn s1 s2 s3 s4 n1 n2 n3 n4 n5) : wX8_copyFrom o1 dw dn s1 s2 s3 s4 n1 n2 n3 n4 n5 P u.1 u.2.1 u.2.2.1 u.2.2.2.1 u.2.2.2.2.1 u.2.2.2.2.2.1 u.2.2.2.2.2.2.1 u.2.2.2.2.2.2.2.1 u.2.2.2.2.2.2.2.2.1 u.2.2.2.2.2.2.2.2.2.1 u.2.2.2.2.2.2.2.2.2.2.1 u.2.2.2.2.2.2.2.2.2.2.2 := by
  have hm : ∀ n : Nat, n < 100 → (¬ (if nI n < nI n then nI n else nI n) < 0 ∧ (if nI n < nI n then nI n else nI n).toNatClampNeg = n) := by
    intro n hn
    rw [if_neg (by rw [nI_ltI (by omega) (by omega)]; omega)]
    exact ⟨nI_pos (by omega), nI_clamp (by omega)⟩
  have h24 := hm 24 (by omega)
  have h61 := hm 61 (by omega)
  exact ⟨h24.1, h24.2, Nat.le_refl _, h24.1, h24.2, Nat.le_refl _, h61.1, h61.2, Nat.le_refl _, h61.1, h61.2, Nat.le_refl _, h61.1, h61.2, Nat.le_refl _, h61.1, h61.2, Nat.le_refl _, h⟩
set_option maxHeartbeats 4000000 in
set_option maxRecDepth 100000 in
theorem kX2_push (l : Launch) (g : kT) (a_this a_states : Nat) (sa : Nat → Nat → Nat) (a_p1 a_d a_s a_do a_dw a_s1 a_s2 a_s3 a_s4 : Nat) (size : Int32) (pi : Nat → Nat) (V0 : Nat → SV) (o1 : Nat → Int64) (dw : Nat → Int64) (dn : Int32) (s1 : Nat → Int32) (s2 : Nat → Int32) (s3 : Nat → Int32) (s4 : Nat → Int64) (n1 : Int32) (n2 : Int32) (n3 : Int32) (n4 : Int32) (n5 : Int32) (P : (Nat → Nat) → (Nat → SV) → Int32 → Prop) (hw : wX2_push o1 dw dn s1 s2 s3 s4 n1 n2 n3 n4 n5 P pi V0 size) : Kv3 l g yX2_push wsX2_push 4 120 0 0 [.ref a_this, .ref a_p1] ((gX2 g a_this a_states size ++ (gAS g a_states (kPi sa pi) ++ (gX8 g a_p1 a_d a_s ++ (gX1 g a_d a_do a_dw o1 dw dn ++ gX7 g a_s a_s1 a_s2 a_s3 a_s4 s1 s2 s3 s4 n1 n2 n3 n4 n5)))) ++ poolW g sa V0) P (fun pi V0 size => (gX2 g a_this a_states size ++ (gAS g a_states (kPi sa pi) ++ (gX8 g a_p1 a_d a_s ++ (gX1 g a_d a_do a_dw o1 dw dn ++ gX7 g a_s a_s1 a_s2 a_s3 a_s4 s1 s2 s3 s4 n1 n2 n3 n4 n5)))) ++ poolW g sa V0) := by
  refine Kv3.mk (cc := cX2_push) (nL := 3) (by decide +kernel) rfl (Nat.le_of_ble_eq_true rfl) ?_
  intro p e s m below meth c A Q ls F hl V ret _
  have hx := F.x
  have hb := F.b
  have hl : lv_has ls 3 [(0, .ref a_this), (1, .ref a_p1)] := hl
  have B16 : ∀ (pi : Nat → Nat) (k : Nat), (∀ i, i < 8 → pi i < 8) → k < 8 → P pi (va_up V0 (pi k) (o1, dw, dn, s1, s2, s3, s4, n1, n2, n3, n4, n5)) (nI (k + 1)) → ∀ {H : Heap} {locs : List Loc} {ls : Array Slot} (V : VW g A s.heap H locs ((gX2 g a_this a_states (nI k) ++ (gAS g a_states (kPi sa pi) ++ (gX8 g a_p1 a_d a_s ++ (gX1 g a_d a_do a_dw o1 dw dn ++ gX7 g a_s a_s1 a_s2 a_s3 a_s4 s1 s2 s3 s4 n1 n2 n3 n4 n5)))) ++ poolW g sa V0)) (hl : lv_has ls 3 [(0, .ref a_this), (1, .ref a_p1)]), W p l e (kR 4 120 0 0) s m ([.ref a_this, .ref a_p1] : List Value).toArray below meth c H locs 0 0 Q (F0 m 16 ls []) := by
    intro pi k hpi hk hw H locs ls V hl
    refine lv_aload_n hx hb dX2_push_16 rfl (lv_at hl 0 rfl) ?_
    refine lv_aload_n hx hb dX2_push_17 rfl (lv_at hl 0 rfl) ?_
    refine kget F V 2 1 0 rfl rfl iX2_push_X2 fX2_push_17 (by decide) rfl rfl dX2_push_18 ?_
    refine kVqP (rest := []) (As := [.int (nI k)]) F hl V (wr := (gX8 g a_p1 a_d a_s ++ (gX1 g a_d a_do a_dw o1 dw dn ++ gX7 g a_s a_s1 a_s2 a_s3 a_s4 s1 s2 s3 s4 n1 n2 n3 n4 n5)) ++ poolW g sa V0) (wc := gX2 g a_this a_states (nI k) ++ gAS g a_states (kPi sa pi)) (List.perm_append_comm (l₁ := gX2 g a_this a_states (nI k) ++ gAS g a_states (kPi sa pi)) (l₂ := (gX8 g a_p1 a_d a_s ++ (gX1 g a_d a_do a_dw o1 dw dn ++ gX7 g a_s a_s1 a_s2 a_s3 a_s4 s1 s2 s3 s4 n1 n2 n3 n4 n5)) ++ poolW g sa V0)) a_this 2 0 rfl rfl (kX2_stateAt l g a_this a_states (nI k) (kPi sa pi) (nI k)) gX2_push_X2_stateAt rfl 1 rfl hdX2_stateAt ⟨Nat.le_of_ble_eq_true rfl, Nat.le_of_ble_eq_true rfl⟩ ⟨Nat.le_of_ble_eq_true rfl, Nat.le_of_ble_eq_true rfl⟩ (Nat.le_of_ble_eq_true rfl) rfl dX2_push_21 (fun r _ H locs hr V => ?_)
    have hr0 : r = some (sa (pi k) 0) := hr k hk rfl
    subst hr0
    have V := V.perm (List.perm_append_comm (l₁ := (gX8 g a_p1 a_d a_s ++ (gX1 g a_d a_do a_dw o1 dw dn ++ gX7 g a_s a_s1 a_s2 a_s3 a_s4 s1 s2 s3 s4 n1 n2 n3 n4 n5)) ++ poolW g sa V0) (l₂ := gX2 g a_this a_states (nI k) ++ gAS g a_states (kPi sa pi)))
    refine lv_astore_n (lv' := [(2, .ref (sa (pi k) 0)), (0, .ref a_this), (1, .ref a_p1)]) hx hb dX2_push_24 rfl hl (by decide) rfl (fun ls hl => ?_)
    refine lv_aload_n hx hb dX2_push_25 rfl (lv_at hl 0 rfl) ?_
    refine lv_ifnull hx hb dX2_push_26 ?_
    refine lv_aload_n hx hb dX2_push_29 rfl (lv_at hl 0 rfl) ?_
    refine lv_aload_n hx hb dX2_push_30 rfl (lv_at hl 2 rfl) ?_
    have hj := hpi k hk
    have V := V.perm (ws' := ((gX2 g a_this a_states (nI k) ++ gAS g a_states (kPi sa pi)) ++ poolR g sa V0 (pi k)) ++ (gSt g (sa (pi k)) (V0 (pi k)) ++ (gX8 g a_p1 a_d a_s ++ (gX1 g a_d a_do a_dw o1 dw dn ++ gX7 g a_s a_s1 a_s2 a_s3 a_s4 s1 s2 s3 s4 n1 n2 n3 n4 n5)))) (k_perm1 (gX2 g a_this a_states (nI k) ++ gAS g a_states (kPi sa pi)) (gX8 g a_p1 a_d a_s ++ (gX1 g a_d a_do a_dw o1 dw dn ++ gX7 g a_s a_s1 a_s2 a_s3 a_s4 s1 s2 s3 s4 n1 n2 n3 n4 n5)) _ _ _ (poolW_split g sa V0 hj))
    have hq : ∃ q, (((gX2 g a_this a_states (nI k) ++ gAS g a_states (kPi sa pi)) ++ poolR g sa V0 (pi k)) ++ (gSt g (sa (pi k)) (V0 (pi k)) ++ (gX8 g a_p1 a_d a_s ++ (gX1 g a_d a_do a_dw o1 dw dn ++ gX7 g a_s a_s1 a_s2 a_s3 a_s4 s1 s2 s3 s4 n1 n2 n3 n4 n5))))[q]? = some ((sa (pi k) 0, .inr (5, [.ref (sa (pi k) 1), .ref (sa (pi k) 2)])) : Nat × va_E) := List.getElem?_of_mem (List.mem_append_right _ (List.mem_append_left _ (by unfold gSt; simp)))
    obtain ⟨q, hq⟩ := hq
    refine kVvP (rest := []) (As := [.ref a_p1]) F hl V (wr := (gX2 g a_this a_states (nI k) ++ gAS g a_states (kPi sa pi)) ++ poolR g sa V0 (pi k)) (wc := gSt g (sa (pi k)) (V0 (pi k)) ++ (gX8 g a_p1 a_d a_s ++ (gX1 g a_d a_do a_dw o1 dw dn ++ gX7 g a_s a_s1 a_s2 a_s3 a_s4 s1 s2 s3 s4 n1 n2 n3 n4 n5))) (List.Perm.refl _) (sa (pi k) 0) 5 q rfl hq (kX8_copyFrom l g (sa (pi k) 0) (sa (pi k) 1) (sa (pi k) 2) (sa (pi k) 3) (sa (pi k) 4) (sa (pi k) 5) (sa (pi k) 6) (sa (pi k) 7) (sa (pi k) 8) a_p1 a_d a_s a_do a_dw a_s1 a_s2 a_s3 a_s4 (V0 (pi k)).1 (V0 (pi k)).2.1 (V0 (pi k)).2.2.1 (V0 (pi k)).2.2.2.1 (V0 (pi k)).2.2.2.2.1 (V0 (pi k)).2.2.2.2.2.1 (V0 (pi k)).2.2.2.2.2.2.1 (V0 (pi k)).2.2.2.2.2.2.2.1 (V0 (pi k)).2.2.2.2.2.2.2.2.1 (V0 (pi k)).2.2.2.2.2.2.2.2.2.1 (V0 (pi k)).2.2.2.2.2.2.2.2.2.2.1 (V0 (pi k)).2.2.2.2.2.2.2.2.2.2.2 o1 dw dn s1 s2 s3 s4 n1 n2 n3 n4 n5 (fun x0 x1 x2 x3 x4 x5 x6 x7 x8 x9 x10 x11 => o1 = x0 ∧ dw = x1 ∧ dn = x2 ∧ s1 = x3 ∧ s2 = x4 ∧ s3 = x5 ∧ s4 = x6 ∧ n1 = x7 ∧ n2 = x8 ∧ n3 = x9 ∧ n4 = x10 ∧ n5 = x11) (wX8_copyFrom_ok o1 dw dn s1 s2 s3 s4 n1 n2 n3 n4 n5 _ (V0 (pi k)) ⟨rfl, rfl, rfl, rfl, rfl, rfl, rfl, rfl, rfl, rfl, rfl, rfl⟩)) gX2_push_X8_copyFrom rfl 1 rfl hdX8_copyFrom ⟨Nat.le_of_ble_eq_true rfl, Nat.le_of_ble_eq_true rfl⟩ ⟨Nat.le_of_ble_eq_true rfl, Nat.le_of_ble_eq_true rfl⟩ (Nat.le_of_ble_eq_true rfl) rfl dX2_push_31 (fun u H locs hu V => ?_)
    obtain ⟨x0, x1, x2, x3, x4, x5, x6, x7, x8, x9, x10, x11⟩ := u
    obtain ⟨rfl, rfl, rfl, rfl, rfl, rfl, rfl, rfl, rfl, rfl, rfl, rfl⟩ := hu
    have V := V.perm (ws' := ((gX2 g a_this a_states (nI k) ++ (gAS g a_states (kPi sa pi) ++ (gX8 g a_p1 a_d a_s ++ (gX1 g a_d a_do a_dw o1 dw dn ++ gX7 g a_s a_s1 a_s2 a_s3 a_s4 s1 s2 s3 s4 n1 n2 n3 n4 n5)))) ++ poolW g sa (va_up V0 (pi k) (o1, dw, dn, s1, s2, s3, s4, n1, n2, n3, n4, n5)))) (k_perm1 (gX2 g a_this a_states (nI k) ++ gAS g a_states (kPi sa pi)) (gX8 g a_p1 a_d a_s ++ (gX1 g a_d a_do a_dw o1 dw dn ++ gX7 g a_s a_s1 a_s2 a_s3 a_s4 s1 s2 s3 s4 n1 n2 n3 n4 n5)) _ _ _ (poolW_up g sa V0 hj (o1, dw, dn, s1, s2, s3, s4, n1, n2, n3, n4, n5))).symm
    refine lv_aload_n hx hb dX2_push_34 rfl (lv_at hl 1 rfl) ?_
    refine lv_dup hx hb dX2_push_35 rfl ?_
    refine kget F V 2 1 0 rfl rfl iX2_push_X2 fX2_push_17 (by decide) rfl rfl dX2_push_36 ?_
    refine lv_iconst (v := 1) hx hb dX2_push_39 (by decide) ?_
    refine lv_iadd hx hb dX2_push_40 ?_
    refine kput F V 2 1 0 tyX2_ok nmX2 rfl rfl iX2_push_X2 fX2_push_17 (by decide) rfl rfl rfl rfl (Nat.le_of_ble_eq_true rfl) dX2_push_41 (fun H locs V => ?_)
    rw [nI_1] at V
    have V : VW g A s.heap H locs ((gX2 g a_this a_states (nI (k + 1)) ++ (gAS g a_states (kPi sa pi) ++ (gX8 g a_p1 a_d a_s ++ (gX1 g a_d a_do a_dw o1 dw dn ++ gX7 g a_s a_s1 a_s2 a_s3 a_s4 s1 s2 s3 s4 n1 n2 n3 n4 n5)))) ++ poolW g sa (va_up V0 (pi k) (o1, dw, dn, s1, s2, s3, s4, n1, n2, n3, n4, n5))) := V
    exact ret _ _ _ _ _ _ _ dX2_push_44 V hw
  obtain ⟨hpi, k, rfl, hk, hw1, hw2⟩ := hw
  refine lv_aload_n hx hb dX2_push_0 rfl (lv_at hl 0 rfl) ?_
  refine kget F V 2 1 0 rfl rfl iX2_push_X2 fX2_push_17 (by decide) rfl rfl dX2_push_1 ?_
  refine lv_aload_n hx hb dX2_push_4 rfl (lv_at hl 0 rfl) ?_
  refine kget F V 2 0 0 rfl rfl iX2_push_X2 fX2_push_11 (by decide) rfl rfl dX2_push_5 ?_
  refine kaalen F V 1 rfl dX2_push_8 ?_
  refine lv_icmp_lt (tgt := 16) hx hb dX2_push_9 (by decide) (fun c_9 => ?_) (fun c_9 => ?_)
  · have hk8 : k < 8 := (nI_ltI (by omega) (by omega)).mp c_9
    exact B16 pi k hpi hk8 (hw1 hk8) V hl
  · have hk8 : k = 8 := by
      rcases Nat.lt_or_ge k 8 with h | h
      · exact absurd ((nI_ltI (by omega) (by omega)).mpr h) c_9
      · omega
    subst hk8
    refine lv_aload_n hx hb dX2_push_12 rfl (lv_at hl 0 rfl) ?_
    have V := V.perm (ws' := (gX8 g a_p1 a_d a_s ++ (gX1 g a_d a_do a_dw o1 dw dn ++ gX7 g a_s a_s1 a_s2 a_s3 a_s4 s1 s2 s3 s4 n1 n2 n3 n4 n5)) ++ ((gX2 g a_this a_states (nI 8) ++ gAS g a_states (kPi sa pi)) ++ poolW g sa V0)) (by
      rw [← List.append_assoc (gX8 g a_p1 a_d a_s ++ (gX1 g a_d a_do a_dw o1 dw dn ++ gX7 g a_s a_s1 a_s2 a_s3 a_s4 s1 s2 s3 s4 n1 n2 n3 n4 n5))]
      refine List.Perm.append_right (poolW g sa V0) ?_
      exact List.perm_append_comm (l₁ := gX2 g a_this a_states (nI 8) ++ gAS g a_states (kPi sa pi)) (l₂ := (gX8 g a_p1 a_d a_s ++ (gX1 g a_d a_do a_dw o1 dw dn ++ gX7 g a_s a_s1 a_s2 a_s3 a_s4 s1 s2 s3 s4 n1 n2 n3 n4 n5))))
    refine kVvP (rest := []) (As := []) F hl V (wr := (gX8 g a_p1 a_d a_s ++ (gX1 g a_d a_do a_dw o1 dw dn ++ gX7 g a_s a_s1 a_s2 a_s3 a_s4 s1 s2 s3 s4 n1 n2 n3 n4 n5))) (wc := (gX2 g a_this a_states (nI 8) ++ gAS g a_states (kPi sa pi)) ++ poolW g sa V0) (List.Perm.refl _) a_this 2 9 rfl rfl (kX2_dropOldest l g a_this a_states sa pi V0 (nI 8) hpi) gX2_push_X2_dropOldest rfl 0 rfl hdX2_dropOldest ⟨Nat.le_of_ble_eq_true rfl, Nat.le_of_ble_eq_true rfl⟩ ⟨Nat.le_of_ble_eq_true rfl, Nat.le_of_ble_eq_true rfl⟩ (Nat.le_of_ble_eq_true rfl) rfl dX2_push_13 (fun u H locs hu V => ?_)
    have V := V.perm (ws' := (gX2 g a_this a_states (nI 7) ++ (gAS g a_states (kPi sa (rot8 pi)) ++ (gX8 g a_p1 a_d a_s ++ (gX1 g a_d a_do a_dw o1 dw dn ++ gX7 g a_s a_s1 a_s2 a_s3 a_s4 s1 s2 s3 s4 n1 n2 n3 n4 n5)))) ++ poolW g sa V0) (by
      rw [← List.append_assoc (gX8 g a_p1 a_d a_s ++ (gX1 g a_d a_do a_dw o1 dw dn ++ gX7 g a_s a_s1 a_s2 a_s3 a_s4 s1 s2 s3 s4 n1 n2 n3 n4 n5))]
      refine List.Perm.append_right (poolW g sa V0) ?_
      exact (List.perm_append_comm (l₁ := gX2 g a_this a_states (nI 7) ++ gAS g a_states (kPi sa (rot8 pi))) (l₂ := (gX8 g a_p1 a_d a_s ++ (gX1 g a_d a_do a_dw o1 dw dn ++ gX7 g a_s a_s1 a_s2 a_s3 a_s4 s1 s2 s3 s4 n1 n2 n3 n4 n5)))).symm)
    exact B16 (rot8 pi) 7 (rot8_lt hpi) (by omega) (hw2 rfl) V hl

