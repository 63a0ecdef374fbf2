/-! the layer: a method's contract in terms of a world, and rows for a world -/
abbrev kT : Type := va_G × ClassId × ClassId × ClassId
abbrev kTY (g : kT) : List (ClassId × FieldType) := [(g.2.1, .int), (g.2.2.1, .long), (g.2.2.2, .object "ChordDesk$State")]
def KK (g : kT) (U : State) : Prop := va_K g.1 vwCl (kTY g) U
def VW (g : kT) (A : Nat → Prop) (H0 H : Heap) (locs : List Loc) (ws : va_W) : Prop := va_P g.1 vwCl ws H ∧ va_D A ws ∧ va_S A H0 H locs
/-- the static things that methods read: the letters of the keys, and what a throw looks at -/
def kLet (j : Nat) : Int32 := if j = 0 then 83 else if j = 1 then 84 else if j = 2 then 80 else if j = 3 then 72 else if j = 4 then 65 else if j = 5 then 79 else if j = 6 then 69 else if j = 7 then 85 else if j = 8 then 70 else if j = 9 then 82 else if j = 10 then 66 else 71
/-- the words of nest mates, which are no good words: carried beside -/
def kNest : List Cond := [.fieldLinkNest "ChordDesk$Letters" 9 "ChordDesk" "KEY_LETTERS" "[C" "ChordDesk", .methodLinkNest "ChordDesk" 9 ⟨"ChordDesk$State", "<init>", "()V"⟩ "ChordDesk", .methodLinkNest "ChordDesk$State" 9 ⟨"ChordDesk$Dictionary", "<init>", "()V"⟩ "ChordDesk", .methodLinkNest "ChordDesk$State" 18 ⟨"ChordDesk$Session", "<init>", "()V"⟩ "ChordDesk", .methodLinkNest "ChordDesk$History" 21 ⟨"ChordDesk$State", "<init>", "()V"⟩ "ChordDesk", .methodLinkNest "ChordDesk" 28 ⟨"ChordDesk$Buffer", "<init>", "()V"⟩ "ChordDesk", .methodLinkNest "ChordDesk" 35 ⟨"ChordDesk$ListReader", "<init>", "()V"⟩ "ChordDesk", .methodLinkNest "ChordDesk" 42 ⟨"ChordDesk$Writing", "<init>", "()V"⟩ "ChordDesk"]
theorem kNest_warm {s U : State} (hW : s.WarmedH U.vm) (h : ∀ w ∈ kNest, va_Nw w s) : ∀ w ∈ kNest, va_Nw w U := by
  intro w hw
  have h9 := h w hw
  simp only [kNest, List.mem_cons, List.not_mem_nil, or_false] at hw
  rcases hw with rfl | rfl | rfl | rfl | rfl | rfl | rfl | rfl
  · exact va_Nw.warmF hW h9
  all_goals exact va_Nw.warmM hW h9
/-- what else a state must have, of its tables alone -/
def ZY (U : State) : Prop := (∀ w ∈ kNest, va_Nw w U) ∧ va_AO "ChordDesk$State" U
theorem ZY.warm {s U : State} (hW : s.WarmedH U.vm) (h : ZY s) : ZY U := by
  obtain ⟨h1, h5⟩ := h
  exact ⟨kNest_warm hW h1, h5.moved hW.alike⟩
def ZZ (A : Nat → Prop) (U : State) (H : Heap) : Prop := (∃ t : Nat, va_Z "ChordDesk" "KEY_LETTERS" "[C" (.ref t) A U H ∧ va_T .char t 12 (fun j => .int (kLet j)) A U H) ∧ vx_Zq Bundle.tN "UNASSIGNED_STACK" Bundle.steD A U H ∧ vx_Zq Bundle.tN "SUPPRESSED_SENTINEL" Bundle.listD A U H ∧ ZY U
theorem ZZ.warm {A : Nat → Prop} {u U : State} {H : Heap} (hW : u.WarmedH U.vm) (h : ZZ A u H) : ZZ A U H := by
  obtain ⟨⟨t, h1, h2⟩, h3, h4, h5⟩ := h
  exact ⟨⟨t, h1.moved hW.alike, h2.moved hW.alike⟩, h3.moved hW.alike, h4.moved hW.alike, h5.warm hW⟩
theorem ZZ.kept {A : Nat → Prop} {U : State} {H H1 : Heap} (h : ZZ A U H) (hq : ∀ a : Nat, a < H.size → ¬ A a → H1[a]? = H[a]?) : ZZ A U H1 := by
  obtain ⟨⟨t, h1, h2⟩, h3, h4, h5⟩ := h
  exact ⟨⟨t, h1.kept hq, h2.kept hq⟩, h3.kept hq, h4.kept hq, h5⟩
theorem ZZ.narrow {A B : Nat → Prop} {U : State} {H : Heap} (h : ZZ A U H) (hAB : ∀ q, B q → A q) : ZZ B U H := by
  obtain ⟨⟨t, h1, h2⟩, h3, h4, h5⟩ := h
  exact ⟨⟨t, h1.narrow hAB, h2.narrow hAB⟩, h3.narrow hAB, h4.narrow hAB, h5⟩
abbrev kR (fr lo mc ms : Nat) : Room := { frames := fr, cells := mc, slots := ms, locals := lo }
def kB (g : kT) (ws : va_W) (sz : Nat) : State → Prop := fun U => U.heap.size = sz ∧ va_P g.1 vwCl ws U.heap ∧ KK g U ∧ va_D (fun _ => True) ws ∧ ZZ (va_A ws sz) U U.heap
def kE {S : Type} (g : kT) (A : Nat → Prop) (w' : S → va_W) : S → State → Prop := fun u t => va_P g.1 vwCl (w' u) t.heap ∧ va_D A (w' u)
def Ki (l : Launch) (g : kT) (y : MethodName) (wd : List Cond) (fr lo mc ms : Nat) (as : List Value) (ws : va_W) {S : Type} (post : Int32 → S → Prop) (w' : S → va_W) : Prop :=
  ∀ sz : Nat, Met l y wd (kR fr lo mc ms) (va_Pc as (kB g ws sz)) (va_Qi post (kE g (va_A ws sz) w') (va_A ws sz)) mc ms (va_A ws sz)
def Kl (l : Launch) (g : kT) (y : MethodName) (wd : List Cond) (fr lo mc ms : Nat) (as : List Value) (ws : va_W) {S : Type} (post : Int64 → S → Prop) (w' : S → va_W) : Prop :=
  ∀ sz : Nat, Met l y wd (kR fr lo mc ms) (va_Pc as (kB g ws sz)) (va_Ql post (kE g (va_A ws sz) w') (va_A ws sz)) mc ms (va_A ws sz)
def Kd (l : Launch) (g : kT) (y : MethodName) (wd : List Cond) (fr lo mc ms : Nat) (as : List Value) (ws : va_W) {S : Type} (post : UInt64 → S → Prop) (w' : S → va_W) : Prop :=
  ∀ sz : Nat, Met l y wd (kR fr lo mc ms) (va_Pc as (kB g ws sz)) (va_Qd post (kE g (va_A ws sz) w') (va_A ws sz)) mc ms (va_A ws sz)
def Kv (l : Launch) (g : kT) (y : MethodName) (wd : List Cond) (fr lo mc ms : Nat) (as : List Value) (ws : va_W) {S : Type} (post : S → Prop) (w' : S → va_W) : Prop :=
  ∀ sz : Nat, Met l y wd (kR fr lo mc ms) (va_Pc as (kB g ws sz)) (va_Qv post (kE g (va_A ws sz) w') (va_A ws sz)) mc ms (va_A ws sz)
/-- what stays through a method: the machine, the code, the words, the tables -/
def FX (p : Program) (s : State) (m : MethodId) (meth : Method) (c : Code) (args : Array Value) (cc : ByteArray) (nL : Nat) (own : String) (ret : Option FieldType) (wd : List Cond) (g : kT) (A : Nat → Prop) : Prop :=
  p.tables.exec = Jvm.exec ∧ c.code = cc ∧ c.maxLocals = nL ∧ s.vm.findClass own = some m.cls ∧ (∀ w ∈ wd, w.before args s = true) ∧ KK g s ∧ (∀ q : Nat, s.heap.size ≤ q → A q) ∧ meth.locks = false ∧ meth.sig.returnType = ret ∧ ZZ A s s.heap
section KL1
variable {p : Program} {l : Launch} {e : Env} {R : Room} {s : State} {m : MethodId} {args : Array Value} {below : List Frame} {meth : Method} {c : Code} {H : Heap} {locs : List Loc} {cells slots : Nat} {Q : State → Prop} {pc : Nat} {ls : Array Slot} {rest st0 : List Value} {a : Nat} {cc : ByteArray} {nL : Nat} {own : String} {rt : Option FieldType} {wd : List Cond} {g : kT} {A : Nat → Prop} {ws : va_W}
theorem FX.x (F : FX p s m meth c args cc nL own rt wd g A) : p.tables.exec = Jvm.exec := F.1
theorem FX.b (F : FX p s m meth c args cc nL own rt wd g A) : c.code = cc := F.2.1
theorem FX.ml (F : FX p s m meth c args cc nL own rt wd g A) : c.maxLocals = nL := F.2.2.1
theorem FX.ow (F : FX p s m meth c args cc nL own rt wd g A) : s.vm.findClass own = some m.cls := F.2.2.2.1
theorem FX.ts (F : FX p s m meth c args cc nL own rt wd g A) : ∀ w ∈ wd, w.before args s = true := F.2.2.2.2.1
theorem FX.K (F : FX p s m meth c args cc nL own rt wd g A) : va_K g.1 vwCl (kTY g) s := F.2.2.2.2.2.1
theorem FX.aA (F : FX p s m meth c args cc nL own rt wd g A) : ∀ q : Nat, s.heap.size ≤ q → A q := F.2.2.2.2.2.2.1
theorem FX.Z (F : FX p s m meth c args cc nL own rt wd g A) : ZZ A s s.heap := F.2.2.2.2.2.2.2.2.2
theorem FX.fix (F : FX p s m meth c args cc nL own rt wd g A) : CallFix p m c cc nL s args wd own := ⟨F.x, F.b, F.ml, F.ow, F.ts⟩
theorem kB_blind {as : List Value} {sz : Nat} : FrameBlind (va_Pc as (kB g ws sz)) := fun a U gg mk q => by
  obtain ⟨q0, q1, qP, qK, qD, qZ⟩ := q
  exact ⟨q0, q1, qP, va_K.moved (u := U) (U := U.calling gg mk a) (Vm.Alike.refl U.vm) qK, qD, ZZ.warm (u := U) (U := U.calling gg mk a) (State.WarmedH.refl U) qZ⟩
theorem k_fm {α : Type} {is : List Nat} {ws ws' : List α} (h : is.map (fun i => ws[i]?) = ws'.map some) : is.filterMap (fun i => ws[i]?) = ws' := by
  have h2 : ∀ (is : List Nat) (l : List α), is.map (fun i => ws[i]?) = l.map some → is.filterMap (fun i => ws[i]?) = l := by
    intro is
    induction is with
    | nil => intro l h; cases l with
      | nil => rfl
      | cons x xs => simp at h
    | cons i is ih => intro l h; cases l with
      | nil => simp at h
      | cons x xs =>
        rw [List.map_cons, List.map_cons] at h
        injection h with h1 h2
        rw [List.filterMap_cons, h1]
        show x :: _ = _
        rw [ih xs h2]
  exact h2 is ws' h
theorem VW.sub {H0 : Heap} {ws' : va_W} (V : VW g A H0 H locs ws) (is : List Nat) (hn : va_nd is = true) (hs : is.map (fun i => ws[i]?) = ws'.map some) : VW g A H0 H locs ws' :=
  ⟨V.1.sub is (k_fm hs), V.2.1.sub is hn hs, V.2.2⟩
/-- getfield -/
theorem kget (F : FX p s m meth c args cc nL own rt wd g A) (V : VW g A s.heap H locs ws) (ci k q0 : Nat) {C : String} {T : u_T} {N index : Nat} {fs : List Value} {v : Value} (hc : vwCl[ci]? = some (C, T, N)) (he : ws[q0]? = some (a, .inr (ci, fs))) (hin : ∀ w ∈ u_ws C T N, w ∈ wd) (hlink : Cond.fieldLink own index C (T k).2.1 (T k).2.2.1 ∈ wd) (hk : k < N) (hT1 : (T k).1 = C) (hv : fs[k]? = some v) (hdg : decode cc pc = .ok (.getfield index, 3))
    (kk : W p l e R s m args below meth c H locs cells slots Q (F0 m (pc + 3) ls (v :: rest))) : W p l e R s m args below meth c H locs cells slots Q (F0 m pc ls (.ref a :: rest)) :=
  va_get F.x F.b F.ts hin F.ow F.K V.1 q0 he hc k hk (F.ts _ hlink) (fun x h => by rw [hT1] at h; exact h) hv hdg kk
/-- putfield -/
theorem kput (F : FX p s m meth c args cc nL own rt wd g A) (V : VW g A s.heap H locs ws) (ci k q0 : Nat) {C : String} {T : u_T} {N index : Nat} {fs : List Value} {v : Value} {ty0 : Nat → FieldType} (hty : ∀ k, k < N → parseFieldDescriptor (T k).2.2.1 = some (ty0 k)) (hnm : ∀ a, a < N → ∀ b, b < N → a ≠ b → (T a).2.1 ≠ (T b).2.1) (hc : vwCl[ci]? = some (C, T, N)) (he : ws[q0]? = some (a, .inr (ci, fs))) (hin : ∀ w ∈ u_ws C T N, w ∈ wd) (hlink : Cond.fieldLink own index C (T k).2.1 (T k).2.2.1 ∈ wd) (hk : k < N) (hT1 : (T k).1 = C) (hfin : (T k).2.2.2 = false) (hn : narrow (ty0 k) v = v) (hfit : fits (ty0 k) v = true) (hl : k < fs.length) (hdg : decode cc pc = .ok (.putfield index, 3))
    (kk : ∀ (H1 : Heap) (locs1 : List Loc), VW g A s.heap H1 locs1 (ws.set q0 (a, .inr (ci, fs.set k v))) → W p l e R s m args below meth c H1 locs1 cells slots Q (F0 m (pc + 3) ls rest)) : W p l e R s m args below meth c H locs cells slots Q (F0 m pc ls (v :: .ref a :: rest)) :=
  va_put F.x F.b F.ts hin ty0 hty hnm F.ow F.K V.1 V.2.1 V.2.2 q0 he hc k hk (F.ts _ hlink) (fun x h => by rw [hT1] at h; exact h) hfin (hty k hk) hn hfit hl hdg (fun H1 locs1 hP hD hS => kk H1 locs1 ⟨hP, hD, hS⟩)
/-- arrays -/
theorem kiald (F : FX p s m meth c args cc nL own rt wd g A) (V : VW g A s.heap H locs ws) (q0 : Nat) {n : Nat} {f : Nat → Int32} (ha : ws[q0]? = some (a, .inl (g.2.1, n, .inl f))) {i : Int32} (hin : vp_in i n) (hdg : decode cc pc = .ok (.iaload, 1))
    (kk : W p l e R s m args below meth c H locs cells slots Q (F0 m (pc + 1) ls (.int (f i.toNatClampNeg) :: rest))) : W p l e R s m args below meth c H locs cells slots Q (F0 m pc ls (.int i :: .ref a :: rest)) :=
  va_iald F.x F.b F.K V.1 q0 0 ha rfl hin hdg kk
theorem klald (F : FX p s m meth c args cc nL own rt wd g A) (V : VW g A s.heap H locs ws) (q0 : Nat) {n : Nat} {f : Nat → Int64} (ha : ws[q0]? = some (a, .inl (g.2.2.1, n, .inr (.inl f)))) {i : Int32} (hin : vp_in i n) (hdg : decode cc pc = .ok (.laload, 1))
    (kk : W p l e R s m args below meth c H locs cells slots Q (F0 m (pc + 1) ls (.long (f i.toNatClampNeg) :: rest))) : W p l e R s m args below meth c H locs cells slots Q (F0 m pc ls (.int i :: .ref a :: rest)) :=
  va_lald F.x F.b F.K V.1 q0 1 ha rfl hin hdg kk
theorem kiast (F : FX p s m meth c args cc nL own rt wd g A) (V : VW g A s.heap H locs ws) (q0 : Nat) {n : Nat} {f : Nat → Int32} (ha : ws[q0]? = some (a, .inl (g.2.1, n, .inl f))) {i x : Int32} (hin : vp_in i n) (hdg : decode cc pc = .ok (.iastore, 1))
    (kk : ∀ f' : Nat → Int32, f' = upd f i.toNatClampNeg x → ∀ (H1 : Heap) (locs1 : List Loc), VW g A s.heap H1 locs1 (ws.set q0 (a, .inl (g.2.1, n, .inl f'))) → W p l e R s m args below meth c H1 locs1 cells slots Q (F0 m (pc + 1) ls rest)) : W p l e R s m args below meth c H locs cells slots Q (F0 m pc ls (.int x :: .int i :: .ref a :: rest)) :=
  va_iast F.x F.b F.K V.1 V.2.1 V.2.2 q0 0 ha rfl hin hdg (fun H1 locs1 hP hD hS => kk _ rfl H1 locs1 ⟨hP, hD, hS⟩)
theorem klast (F : FX p s m meth c args cc nL own rt wd g A) (V : VW g A s.heap H locs ws) (q0 : Nat) {n : Nat} {f : Nat → Int64} (ha : ws[q0]? = some (a, .inl (g.2.2.1, n, .inr (.inl f)))) {i : Int32} {x : Int64} (hin : vp_in i n) (hdg : decode cc pc = .ok (.lastore, 1))
    (kk : ∀ f' : Nat → Int64, f' = vp_updL f i.toNatClampNeg x → ∀ (H1 : Heap) (locs1 : List Loc), VW g A s.heap H1 locs1 (ws.set q0 (a, .inl (g.2.2.1, n, .inr (.inl f')))) → W p l e R s m args below meth c H1 locs1 cells slots Q (F0 m (pc + 1) ls rest)) : W p l e R s m args below meth c H locs cells slots Q (F0 m pc ls (.long x :: .int i :: .ref a :: rest)) :=
  va_last F.x F.b F.K V.1 V.2.1 V.2.2 q0 1 ha rfl hin hdg (fun H1 locs1 hP hD hS => kk _ rfl H1 locs1 ⟨hP, hD, hS⟩)
theorem kialen (F : FX p s m meth c args cc nL own rt wd g A) (V : VW g A s.heap H locs ws) (q0 : Nat) {n : Nat} {f : Nat → Int32} (ha : ws[q0]? = some (a, .inl (g.2.1, n, .inl f))) (hdg : decode cc pc = .ok (.arraylength, 1))
    (kk : W p l e R s m args below meth c H locs cells slots Q (F0 m (pc + 1) ls (.int (nI n) :: rest))) : W p l e R s m args below meth c H locs cells slots Q (F0 m pc ls (.ref a :: rest)) :=
  va_alen F.x F.b F.K V.1 q0 0 ha (ty := .int) rfl rfl hdg kk
theorem klalen (F : FX p s m meth c args cc nL own rt wd g A) (V : VW g A s.heap H locs ws) (q0 : Nat) {n : Nat} {f : Nat → Int64} (ha : ws[q0]? = some (a, .inl (g.2.2.1, n, .inr (.inl f)))) (hdg : decode cc pc = .ok (.arraylength, 1))
    (kk : W p l e R s m args below meth c H locs cells slots Q (F0 m (pc + 1) ls (.int (nI n) :: rest))) : W p l e R s m args below meth c H locs cells slots Q (F0 m pc ls (.ref a :: rest)) :=
  va_alen F.x F.b F.K V.1 q0 1 ha (ty := .long) rfl rfl hdg kk
end KL1
theorem k01n {v : Int32} (h : v = 0 ∨ v = 1) : narrow .boolean (.int v) = .int v := by rcases h with rfl | rfl <;> rfl
theorem k01f {v : Int32} (h : v = 0 ∨ v = 1) : fits .boolean (.int v) = true := by rcases h with rfl | rfl <;> rfl
section KL2
variable {l : Launch} {g : kT} {y : MethodName} {wd wd' : List Cond} {fr lo mc ms : Nat} {as : List Value} {ws : va_W} {S : Type} {w' : S → va_W}
theorem Ki.mk {post : Int32 → S → Prop} (cc : ByteArray) (nL : Nat) (ty : FieldType) (hy : plainName y.cls = true) (hw : wd = Cond.code y cc nL (some ty) :: wd') (hlen : (lg_sl as).length ≤ nL)
    (body : ∀ (p : Program) (e : Env) (s : State) (m : MethodId) (below : List Frame) (meth : Method) (c : Code) (A : Nat → Prop) (Q : State → Prop) (ls : Array Slot), FX p s m meth c as.toArray cc nL y.cls (some ty) wd g A → lv_has ls nL (lv_args 0 as) → VW g A s.heap s.heap [] ws →
      (∀ (v : Int32) (u : S) (H : Heap) (locs : List Loc) (pc : Nat) (ls : Array Slot), narrow ty (.int v) = .int v → decode cc pc = .ok (.ireturn, 1) → VW g A s.heap H locs (w' u) → post v u → W p l e (kR fr lo mc ms) s m as.toArray below meth c H locs mc ms Q (F0 m pc ls [.int v])) →
      W p l e (kR fr lo mc ms) s m as.toArray below meth c s.heap [] 0 0 Q (F0 m 0 ls [])) : Ki l g y wd fr lo mc ms as ws post w' := by
  intro sz
  refine Met.ofW (cc := cc) (maxL := nL) (ret := some ty) hy hw ?_
  intro p e s m args below meth c s₁ B hml hv
  obtain ⟨rfl, hsz, hP, hK, hD0, hZ⟩ := hv
  subst hsz
  have hts := atoms_spec (ws := wd) B.pre
  have hl := lv_entry as hlen
  rw [lg_entry_eq]
  generalize (lg_sl as ++ List.replicate (nL - (lg_sl as).length) Slot.unset).toArray = ls at hl ⊢
  exact body p e s m below meth c (va_A ws s.heap.size) _ ls ⟨B.exec, B.bytes, hml, findClass_of_methodNamed B.named, hts, hK, fun q h => Or.inr h, B.notSynchronized, B.returns, hZ⟩ hl ⟨hP, hD0.self, va_S.rf⟩
    (fun v u H locs pc ls hn hd V hp => W.zret B.exec B.bytes B.returns hn (fun t ht hW => ⟨⟨v, u, rfl, hp, by rw [ht]; exact V.1, V.2.1⟩, V.2.2.F ht⟩) V.2.2.2.2 hd B.notSynchronized)
theorem Kl.mk {post : Int64 → S → Prop} (cc : ByteArray) (nL : Nat) (hy : plainName y.cls = true) (hw : wd = Cond.code y cc nL (some .long) :: wd') (hlen : (lg_sl as).length ≤ nL)
    (body : ∀ (p : Program) (e : Env) (s : State) (m : MethodId) (below : List Frame) (meth : Method) (c : Code) (A : Nat → Prop) (Q : State → Prop) (ls : Array Slot), FX p s m meth c as.toArray cc nL y.cls (some .long) wd g A → lv_has ls nL (lv_args 0 as) → VW g A s.heap s.heap [] ws →
      (∀ (v : Int64) (u : S) (H : Heap) (locs : List Loc) (pc : Nat) (ls : Array Slot), decode cc pc = .ok (.lreturn, 1) → VW g A s.heap H locs (w' u) → post v u → W p l e (kR fr lo mc ms) s m as.toArray below meth c H locs mc ms Q (F0 m pc ls [.long v])) →
      W p l e (kR fr lo mc ms) s m as.toArray below meth c s.heap [] 0 0 Q (F0 m 0 ls [])) : Kl l g y wd fr lo mc ms as ws post w' := by
  intro sz
  refine Met.ofW (cc := cc) (maxL := nL) (ret := some .long) hy hw ?_
  intro p e s m args below meth c s₁ B hml hv
  obtain ⟨rfl, hsz, hP, hK, hD0, hZ⟩ := hv
  subst hsz
  have hts := atoms_spec (ws := wd) B.pre
  have hl := lv_entry as hlen
  rw [lg_entry_eq]
  generalize (lg_sl as ++ List.replicate (nL - (lg_sl as).length) Slot.unset).toArray = ls at hl ⊢
  exact body p e s m below meth c (va_A ws s.heap.size) _ ls ⟨B.exec, B.bytes, hml, findClass_of_methodNamed B.named, hts, hK, fun q h => Or.inr h, B.notSynchronized, B.returns, hZ⟩ hl ⟨hP, hD0.self, va_S.rf⟩
    (fun v u H locs pc ls hd V hp => W.lret B.exec B.bytes B.returns (fun t ht hW => ⟨⟨v, u, rfl, hp, by rw [ht]; exact V.1, V.2.1⟩, V.2.2.F ht⟩) V.2.2.2.2 hd B.notSynchronized)
theorem Kd.mk {post : UInt64 → S → Prop} (cc : ByteArray) (nL : Nat) (hy : plainName y.cls = true) (hw : wd = Cond.code y cc nL (some .double) :: wd') (hlen : (lg_sl as).length ≤ nL)
    (body : ∀ (p : Program) (e : Env) (s : State) (m : MethodId) (below : List Frame) (meth : Method) (c : Code) (A : Nat → Prop) (Q : State → Prop) (ls : Array Slot), FX p s m meth c as.toArray cc nL y.cls (some .double) wd g A → lv_has ls nL (lv_args 0 as) → VW g A s.heap s.heap [] ws →
      (∀ (v : UInt64) (u : S) (H : Heap) (locs : List Loc) (pc : Nat) (ls : Array Slot), decode cc pc = .ok (.dreturn, 1) → VW g A s.heap H locs (w' u) → post v u → W p l e (kR fr lo mc ms) s m as.toArray below meth c H locs mc ms Q (F0 m pc ls [.double v])) →
      W p l e (kR fr lo mc ms) s m as.toArray below meth c s.heap [] 0 0 Q (F0 m 0 ls [])) : Kd l g y wd fr lo mc ms as ws post w' := by
  intro sz
  refine Met.ofW (cc := cc) (maxL := nL) (ret := some .double) hy hw ?_
  intro p e s m args below meth c s₁ B hml hv
  obtain ⟨rfl, hsz, hP, hK, hD0, hZ⟩ := hv
  subst hsz
  have hts := atoms_spec (ws := wd) B.pre
  have hl := lv_entry as hlen
  rw [lg_entry_eq]
  generalize (lg_sl as ++ List.replicate (nL - (lg_sl as).length) Slot.unset).toArray = ls at hl ⊢
  exact body p e s m below meth c (va_A ws s.heap.size) _ ls ⟨B.exec, B.bytes, hml, findClass_of_methodNamed B.named, hts, hK, fun q h => Or.inr h, B.notSynchronized, B.returns, hZ⟩ hl ⟨hP, hD0.self, va_S.rf⟩
    (fun v u H locs pc ls hd V hp => W.dret B.exec B.bytes B.returns (fun t ht hW => ⟨⟨v, u, rfl, hp, by rw [ht]; exact V.1, V.2.1⟩, V.2.2.F ht⟩) V.2.2.2.2 hd B.notSynchronized)
theorem Kv.mk {post : S → Prop} (cc : ByteArray) (nL : Nat) (hy : plainName y.cls = true) (hw : wd = Cond.code y cc nL none :: wd') (hlen : (lg_sl as).length ≤ nL)
    (body : ∀ (p : Program) (e : Env) (s : State) (m : MethodId) (below : List Frame) (meth : Method) (c : Code) (A : Nat → Prop) (Q : State → Prop) (ls : Array Slot), FX p s m meth c as.toArray cc nL y.cls none wd g A → lv_has ls nL (lv_args 0 as) → VW g A s.heap s.heap [] ws →
      (∀ (u : S) (H : Heap) (locs : List Loc) (pc : Nat) (ls : Array Slot), decode cc pc = .ok (.return_, 1) → VW g A s.heap H locs (w' u) → post u → W p l e (kR fr lo mc ms) s m as.toArray below meth c H locs mc ms Q (F0 m pc ls [])) → meth.name = y.name →
      W p l e (kR fr lo mc ms) s m as.toArray below meth c s.heap [] 0 0 Q (F0 m 0 ls [])) : Kv l g y wd fr lo mc ms as ws post w' := by
  intro sz
  refine Met.ofW (cc := cc) (maxL := nL) (ret := none) hy hw ?_
  intro p e s m args below meth c s₁ B hml hv
  obtain ⟨rfl, hsz, hP, hK, hD0, hZ⟩ := hv
  subst hsz
  have hts := atoms_spec (ws := wd) B.pre
  have hl := lv_entry as hlen
  rw [lg_entry_eq]
  generalize (lg_sl as ++ List.replicate (nL - (lg_sl as).length) Slot.unset).toArray = ls at hl ⊢
  exact body p e s m below meth c (va_A ws s.heap.size) _ ls ⟨B.exec, B.bytes, hml, findClass_of_methodNamed B.named, hts, hK, fun q h => Or.inr h, B.notSynchronized, B.returns, hZ⟩ hl ⟨hP, hD0.self, va_S.rf⟩
    (fun u H locs pc ls hd V hp => W.vret B.exec B.bytes B.returns (fun t ht hW => ⟨⟨u, rfl, hp, by rw [ht]; exact V.1, V.2.1⟩, V.2.2.F ht⟩) V.2.2.2.2 hd B.notSynchronized)
    (name_of_methodNamed B.named B.method).1
end KL2
section KL3
variable {p : Program} {l : Launch} {e : Env} {R : Room} {s : State} {m : MethodId} {args : Array Value} {below : List Frame} {meth : Method} {c : Code} {H : Heap} {locs : List Loc} {cells slots : Nat} {Q : State → Prop} {pc : Nat} {ls : Array Slot} {rest st0 : List Value} {a : Nat} {cc : ByteArray} {nL : Nat} {own : String} {rt : Option FieldType} {wd : List Cond} {g : kT} {A : Nat → Prop} {ws : va_W}
  {y : MethodName} {wd' wd'' : List Cond} {fr lo mc ms : Nat} {As : List Value} {wc : va_W} {index maxL : Nat} {bytes : ByteArray} {ret : Option FieldType} {Qc : Array Value → State → Outcome → State → Prop} {free : Addr → Prop}
/-- the run of a static method -/
theorem kRunS (F : FX p s m meth c args cc nL own rt wd g A) (V : VW g A s.heap H locs ws) {lv : List (Nat × Value)} (hls : lv_has ls nL lv) (isC : List Nat) (hnd : va_nd isC = true) (hC : isC.map (fun i => ws[i]?) = wc.map some) (hM : Met l y wd' (kR fr lo mc ms) (va_Pc As (kB g wc H.size)) Qc mc ms free) (gl : GoodIn wd (va_wsS own index y wd')) (hw : wd' = Cond.code y bytes maxL ret :: wd'')
    (hd : y.cls ≠ "java/lang/invoke/MethodHandle" ∧ y.cls ≠ "java/lang/invoke/VarHandle" ∧ (parseMethodDescriptor y.desc).map (fun d => d.parameters.length) = some As.length) (hR : fr + 1 ≤ R.frames ∧ 8 + (maxL + 11) + lo ≤ R.locals) (hst : st0 = As.reverse ++ rest) (hrest : (rest.map fun v => v.category).sum ≤ 8) (hf : cells + mc ≤ R.cells ∧ slots + ms ≤ R.slots) (hdg : decode cc pc = .ok (.invokestatic index, 3)) :
    va_Run p l e R s m args below meth c H locs cells slots mc ms (F0 m pc ls st0) rest (Qc As.toArray) free := by
  have V9 := V.sub isC hnd hC
  have hZ9 : ZZ (va_A wc H.size) s H := (F.Z.kept V.2.2.2.1).narrow (va_free V.2.1 V.2.2 F.aA isC hC)
  exact va_runS F.fix hM (va_cwS As.length F.ts gl hw rfl rfl hd hR) ⟨kB_blind, fun U hU hW => ⟨rfl, by rw [hU], by rw [hU]; exact V9.1, va_K.moved hW.alike F.K, V9.2.1.weaken (fun _ _ _ _ => trivial), by rw [hU]; exact hZ9.warm hW⟩⟩ rfl rfl hls.1 hst (lv_room hrest) hdg hf
/-- the run of a virtual method; the receiver is the first cell of its world -/
theorem kRunV (F : FX p s m meth c args cc nL own rt wd g A) (V : VW g A s.heap H locs ws) {lv : List (Nat × Value)} (hls : lv_has ls nL lv) (isC : List Nat) (hnd : va_nd isC = true) (hC : isC.map (fun i => ws[i]?) = wc.map some) {b ci qb : Nat} {C : String} {T : u_T} {N : Nat} {fs : List Value} (hc : vwCl[ci]? = some (C, T, N)) (hb : ws[qb]? = some (b, .inr (ci, fs))) (hM : Met l y wd' (kR fr lo mc ms) (va_Pc (.ref b :: As) (kB g wc H.size)) Qc mc ms free) (gl : GoodIn wd (wsV own index C y wd')) (hw : wd' = Cond.code y bytes maxL ret :: wd'')
    (hd : y.cls = C ∧ y.cls ≠ "java/lang/invoke/MethodHandle" ∧ y.cls ≠ "java/lang/invoke/VarHandle" ∧ (parseMethodDescriptor y.desc).map (fun d => d.parameters.length) = some As.length) (hR : fr + 1 ≤ R.frames ∧ 8 + (maxL + 11) + lo ≤ R.locals) (hst : st0 = As.reverse ++ .ref b :: rest) (hrest : (rest.map fun v => v.category).sum ≤ 8) (hf : cells + mc ≤ R.cells ∧ slots + ms ≤ R.slots) (hdg : decode cc pc = .ok (.invokevirtual index, 3)) :
    va_Run p l e R s m args below meth c H locs cells slots mc ms (F0 m pc ls st0) rest (Qc (Value.ref b :: As).toArray) free := by
  have V9 := V.sub isC hnd hC
  have hZ9 : ZZ (va_A wc H.size) s H := (F.Z.kept V.2.2.2.1).narrow (va_free V.2.1 V.2.2 F.aA isC hC)
  exact va_runV F.fix hM (cwV As.length F.ts gl hw rfl rfl hd hR) ⟨kB_blind, va_recv F.K V.1 hc hb, fun U hU hW => ⟨rfl, by rw [hU], by rw [hU]; exact V9.1, va_K.moved hW.alike F.K, V9.2.1.weaken (fun _ _ _ _ => trivial), by rw [hU]; exact hZ9.warm hW⟩⟩ rfl rfl hls.1 hst (lv_room hrest) hdg hf
/-- behind a call that had the cells isC of the world: the others and what came back, in the order isP -/
theorem kBack {S : Type} {w' wf : S → va_W} {u : S} {H1 : Heap} {locs1 : List Loc} {t : State} (F : FX p s m meth c args cc nL own rt wd g A) (V : VW g A s.heap H locs ws) (isC isR isP : List Nat) {wr : va_W} (hC : isC.map (fun i => ws[i]?) = wc.map some) (hR : isR.map (fun i => ws[i]?) = wr.map some) (hn : va_nd isR = true) (hdis : ∀ i ∈ isR, i ∉ isC) (hPn : va_nd isP = true) (hP : isP.map (fun i => (wr ++ w' u)[i]?) = (wf u).map some)
    (ht : t.heap = H1) (hB : kE g (va_A wc H.size) w' u t) (hk1 : ∀ q : Nat, q < H.size → ¬ va_A wc H.size q → H1[q]? = H[q]?) (hS : va_S A s.heap H1 locs1) : VW g A s.heap H1 locs1 (wf u) := by
  obtain ⟨hP1, hD1⟩ := hB
  rw [ht] at hP1
  have hF := va_free V.2.1 V.2.2 F.aA isC hC
  obtain ⟨h1, h2⟩ := va_join V.1 V.2.1 isC isR hC hR hn hdis hk1 hF hP1 hD1
  have V2 : VW g A s.heap H1 locs1 (wr ++ w' u) := ⟨h1, h2, hS⟩
  exact V2.sub isP hPn hP
/-- behind a call without a world -/
theorem kBack0 {H1 : Heap} {locs1 : List Loc} (V : VW g A s.heap H locs ws) (hk1 : ∀ q : Nat, q < H.size → ¬ va_A [] H.size q → H1[q]? = H[q]?) (hS : va_S A s.heap H1 locs1) : VW g A s.heap H1 locs1 ws := by
  refine ⟨fun k q hq => (V.1 k q hq).kept (hk1 q.1 (V.1 k q hq).lt ?_), V.2.1, hS⟩
  rintro (⟨k2, e, h⟩ | h)
  · simp at h
  · have := (V.1 k q hq).lt
    omega
end KL3
