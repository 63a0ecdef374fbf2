theorem k_pW {α : Type} (n11 x8 x1 x7 y8 y1 y7 h2 as T bf rd wr m p4 : List α) : ((([] ++ ((((((n11 ++ ((x8 ++ x1) ++ x7)) ++ ((y8 ++ y1) ++ y7)) ++ (h2 ++ (as ++ T))) ++ bf) ++ rd) ++ wr)) ++ m) ++ p4).Perm ((p4 ++ (n11 ++ (h2 ++ (x8 ++ (x1 ++ (x7 ++ (wr ++ (bf ++ (y8 ++ (y1 ++ (y7 ++ (as ++ (rd ++ m))))))))))))) ++ T) := by
  classical
  rw [List.perm_iff_count]
  intro a
  simp only [List.count_append, List.count_nil]
  omega
theorem whole_start {p : Program} {e : Env} {s : State} {m : MethodId} {below : List Frame} {meth : Method} {c : Code} (l : Launch) (hflags : l.flags = flags0) {b L : Nat} {xs : Nat → Int32} (hL : L ≤ 1536) (C0 : lw_At p s m meth c b L xs) : W p l e room_1 s m #[Value.ref b] below meth c s.heap [] 0 0 (lw_Z below #[Value.ref b] s) (entryFrame m ([Value.ref b] : List Value).toArray 9) := by
  obtain ⟨hx, hb, hr, hml, hown, hts, hX, hbl, hlocks, hgv⟩ := C0
  obtain ⟨g, hK⟩ := st_K hts
  have hZ := st_ZZ hts hgv
  have hbA : ¬ (fun q : Nat => s.heap.size ≤ q) b := Nat.not_le.mpr hbl
  have F : FX p s m meth c #[Value.ref b] cL_law 9 RL ret lw_tbl g (fun q : Nat => s.heap.size ≤ q) := ⟨hx, hb, hml, hown, hts, hK, fun q h => h, hlocks, hr, hZ⟩
  have hfl : l.stackTraces = false := by
    show (!l.flags.contains _) = false
    rw [hflags]
    decide +kernel
  have hl := lv_entry ([.ref b]) (n := 9) (Nat.le_of_ble_eq_true rfl)
  rw [lg_entry_eq]
  generalize (lg_sl ([.ref b]) ++ List.replicate (9 - (lg_sl ([.ref b])).length) Slot.unset).toArray = ls at hl ⊢
  have hl : lv_has ls 9 [(0, .ref b)] := hl
  have V : VW g (fun q : Nat => s.heap.size ≤ q) s.heap s.heap [] [] := ⟨fun k q h => by simp at h, ⟨fun i j p q h => by simp at h, fun k q h => by simp at h⟩, va_S.rf⟩
  refine knew F V 7 [.null, .null, .null, .null, .null, .null] tyX11_ok rfl in_wsX110 (st_l (.classLink RL 8 RX11) (by simp)) (st_i (.instantiable RX11 6) (by simp)) (st_l (.initialized RX11) (by simp)) (fun j hj => by rcases (show j = 0 ∨ j = 1 ∨ j = 2 ∨ j = 3 ∨ j = 4 ∨ j = 5 by omega) with rfl | rfl | rfl | rfl | rfl | rfl <;> rfl) (Nat.le_of_ble_eq_true rfl) (Nat.le_of_ble_eq_true rfl) dL_law_0 (fun q0 H V => ?_)
  have V : VW g (fun q : Nat => s.heap.size ≤ q) s.heap H _ ([] ++ [(q0, .inr (7, [.null, .null, .null, .null, .null, .null]))]) := V
  refine lv_dup hx hb dL_law_3 rfl ?_
  refine kIv (wr := []) (rest := [.ref q0]) F hl V q0 (kX11_init l g q0) gL_law_X11_init rfl (st_l (.initialized RX11) (by simp)) (st_l (.methodLink RL 66 yX11_init) (by simp)) (st_l (.instanceMethod yX11_init) (by simp)) rfl hdX11_init.2 ⟨Nat.le_of_ble_eq_true rfl, Nat.le_of_ble_eq_true rfl⟩ ⟨Nat.le_of_ble_eq_true rfl, Nat.le_of_ble_eq_true rfl⟩ (Nat.le_of_ble_eq_true rfl) dL_law_4 (fun u H locs _ V => ?_)
  obtain ⟨z0, z1, z2, z3, z4, z5, z6, z7, z8, z9, z10, z11, z12, z13, z14, z15, z16, z17, z18, z19, z20, z21, z22, z23, z24, z25, z26⟩ := u
  have V : VW g (fun q : Nat => s.heap.size ≤ q) s.heap H locs ([] ++ ((((((gX11 g q0 z0 z9 z18 z21 z23 z24 ++ ((gX8 g z0 z1 z4 ++ gX1 g z1 z2 z3 (fun _ => 0) (fun _ => 0) 0) ++ gX7 g z4 z5 z6 z7 z8 (fun _ => 0) (fun _ => 0) (fun _ => 0) (fun _ => 0) 0 0 0 0 8)) ++ ((gX8 g z9 z10 z13 ++ gX1 g z10 z11 z12 (fun _ => 0) (fun _ => 0) 0) ++ gX7 g z13 z14 z15 z16 z17 (fun _ => 0) (fun _ => 0) (fun _ => 0) (fun _ => 0) 0 0 0 0 8)) ++ (gX2 g z18 z19 0 ++ (gAS g z19 (kPi z20 id) ++ poolW g z20 (fun _ => v0)))) ++ gX0 g z21 z22 (fun _ => 0) 0) ++ gX4 g z23 0 0 0 0 0 0) ++ gX10 g z24 z25 z26 (fun _ => 0) (fun _ => 0) 0)) := V
  refine lv_astore_n hx hb dL_law_7 rfl hl (by decide) rfl (fun ls hl => ?_)
  have hl : lv_has ls 9 [(1, .ref q0), (0, .ref b)] := hl
  refine knew F V 8 [.int 0, .null, .int 0, .null, .int 0, .null, .int 0, .null, .null, .int 0, .int 0, .null, .null, .long 0] tyX12_ok rfl in_wsX120 (st_l (.classLink RL 67 RX12) (by simp)) (st_i (.instantiable RX12 14) (by simp)) (st_l (.initialized RX12) (by simp)) (fun j hj => by rcases (show j = 0 ∨ j = 1 ∨ j = 2 ∨ j = 3 ∨ j = 4 ∨ j = 5 ∨ j = 6 ∨ j = 7 ∨ j = 8 ∨ j = 9 ∨ j = 10 ∨ j = 11 ∨ j = 12 ∨ j = 13 by omega) with rfl | rfl | rfl | rfl | rfl | rfl | rfl | rfl | rfl | rfl | rfl | rfl | rfl | rfl <;> rfl) (Nat.le_of_ble_eq_true rfl) (Nat.le_of_ble_eq_true rfl) dL_law_8 (fun q8 H V => ?_)
  have V : VW g (fun q : Nat => s.heap.size ≤ q) s.heap H _ (([] ++ ((((((gX11 g q0 z0 z9 z18 z21 z23 z24 ++ ((gX8 g z0 z1 z4 ++ gX1 g z1 z2 z3 (fun _ => 0) (fun _ => 0) 0) ++ gX7 g z4 z5 z6 z7 z8 (fun _ => 0) (fun _ => 0) (fun _ => 0) (fun _ => 0) 0 0 0 0 8)) ++ ((gX8 g z9 z10 z13 ++ gX1 g z10 z11 z12 (fun _ => 0) (fun _ => 0) 0) ++ gX7 g z13 z14 z15 z16 z17 (fun _ => 0) (fun _ => 0) (fun _ => 0) (fun _ => 0) 0 0 0 0 8)) ++ (gX2 g z18 z19 0 ++ (gAS g z19 (kPi z20 id) ++ poolW g z20 (fun _ => v0)))) ++ gX0 g z21 z22 (fun _ => 0) 0) ++ gX4 g z23 0 0 0 0 0 0) ++ gX10 g z24 z25 z26 (fun _ => 0) (fun _ => 0) 0)) ++ [(q8, .inr (8, [.int 0, .null, .int 0, .null, .int 0, .null, .int 0, .null, .null, .int 0, .int 0, .null, .null, .long 0]))]) := V
  refine lv_dup hx hb dL_law_11 rfl ?_
  refine kIv (rest := [.ref q8]) F hl V q8 (kX12_init l g q8) gL_law_X12_init rfl (st_l (.initialized RX12) (by simp)) (st_l (.methodLink RL 69 yX12_init) (by simp)) (st_l (.instanceMethod yX12_init) (by simp)) rfl hdX12_init.2 ⟨Nat.le_of_ble_eq_true rfl, Nat.le_of_ble_eq_true rfl⟩ ⟨Nat.le_of_ble_eq_true rfl, Nat.le_of_ble_eq_true rfl⟩ (Nat.le_of_ble_eq_true rfl) dL_law_12 (fun u H locs _ V => ?_)
  obtain ⟨m0, m1, m2, m3, m4, m5, m6⟩ := u
  have V : VW g (fun q : Nat => s.heap.size ≤ q) s.heap H locs (([] ++ ((((((gX11 g q0 z0 z9 z18 z21 z23 z24 ++ ((gX8 g z0 z1 z4 ++ gX1 g z1 z2 z3 (fun _ => 0) (fun _ => 0) 0) ++ gX7 g z4 z5 z6 z7 z8 (fun _ => 0) (fun _ => 0) (fun _ => 0) (fun _ => 0) 0 0 0 0 8)) ++ ((gX8 g z9 z10 z13 ++ gX1 g z10 z11 z12 (fun _ => 0) (fun _ => 0) 0) ++ gX7 g z13 z14 z15 z16 z17 (fun _ => 0) (fun _ => 0) (fun _ => 0) (fun _ => 0) 0 0 0 0 8)) ++ (gX2 g z18 z19 0 ++ (gAS g z19 (kPi z20 id) ++ poolW g z20 (fun _ => v0)))) ++ gX0 g z21 z22 (fun _ => 0) 0) ++ gX4 g z23 0 0 0 0 0 0) ++ gX10 g z24 z25 z26 (fun _ => 0) (fun _ => 0) 0)) ++ gX12 g q8 m0 m1 m2 m3 m4 m5 m6 0 (upd (fun _ => 0) (1316 : Int32).toNatClampNeg 8) 0 (fun _ => 0) 0 (fun _ => 0) 0 (fun _ => 0) (fun _ => 0) 0 0 (fun _ => 0) (fun _ => 0) 0) := V
  refine lv_astore_n hx hb dL_law_15 rfl hl (by decide) rfl (fun ls hl => ?_)
  have hl : lv_has ls 9 [(2, .ref q8), (1, .ref q0), (0, .ref b)] := hl
  refine lv_iconst (v := 1) hx hb dL_law_16 rfl ?_
  refine knewl F V (st_w (.arrayClass .long) (by simp)) 1 (by decide) rfl (Nat.le_of_ble_eq_true rfl) (Nat.le_of_ble_eq_true rfl) (Nat.le_of_ble_eq_true rfl) dL_law_17 (fun q17 H V => ?_)
  have V : VW g (fun q : Nat => s.heap.size ≤ q) s.heap H _ ((([] ++ ((((((gX11 g q0 z0 z9 z18 z21 z23 z24 ++ ((gX8 g z0 z1 z4 ++ gX1 g z1 z2 z3 (fun _ => 0) (fun _ => 0) 0) ++ gX7 g z4 z5 z6 z7 z8 (fun _ => 0) (fun _ => 0) (fun _ => 0) (fun _ => 0) 0 0 0 0 8)) ++ ((gX8 g z9 z10 z13 ++ gX1 g z10 z11 z12 (fun _ => 0) (fun _ => 0) 0) ++ gX7 g z13 z14 z15 z16 z17 (fun _ => 0) (fun _ => 0) (fun _ => 0) (fun _ => 0) 0 0 0 0 8)) ++ (gX2 g z18 z19 0 ++ (gAS g z19 (kPi z20 id) ++ poolW g z20 (fun _ => v0)))) ++ gX0 g z21 z22 (fun _ => 0) 0) ++ gX4 g z23 0 0 0 0 0 0) ++ gX10 g z24 z25 z26 (fun _ => 0) (fun _ => 0) 0)) ++ gX12 g q8 m0 m1 m2 m3 m4 m5 m6 0 (upd (fun _ => 0) (1316 : Int32).toNatClampNeg 8) 0 (fun _ => 0) 0 (fun _ => 0) 0 (fun _ => 0) (fun _ => 0) 0 0 (fun _ => 0) (fun _ => 0) 0) ++ gAJ g q17 1 (fun _ => 0)) := V
  refine lv_astore_n hx hb dL_law_19 rfl hl (by decide) rfl (fun ls hl => ?_)
  have hl : lv_has ls 9 [(3, .ref q17), (2, .ref q8), (1, .ref q0), (0, .ref b)] := hl
  refine lv_iconst (v := 0) hx hb dL_law_20 rfl ?_
  refine lv_istore hx hb dL_law_21 hl (by decide) rfl (fun ls hl => ?_)
  have hl : lv_has ls 9 [(4, .int 0), (3, .ref q17), (2, .ref q8), (1, .ref q0), (0, .ref b)] := hl
  have hl : lv_has ls 9 [(0, .ref b), (1, .ref q0), (2, .ref q8), (3, .ref q17), (4, .int (nI 0))] := lv_sub hl [4, 3, 2, 1, 0] rfl
  have V2 := V.perm (k_pW _ _ _ _ _ _ _ _ _ _ _ _ _ _ _)
  have fin : ∀ (H : Heap) (locs : List Loc) (pc : Nat) (ls : Array Slot) (cells slots : Nat), decode cL_law pc = .ok (.ireturn, 1) → cells ≤ 601024 → slots ≤ 7293034 → ∀ {ws : va_W}, VW g (fun q : Nat => s.heap.size ≤ q) s.heap H locs ws → W p l e room_1 s m #[Value.ref b] below meth c H locs cells slots (lw_Z below #[Value.ref b] s) (F0 m pc ls [.int 1]) := by
    intro H locs pc ls cells slots hdg hc hs ws V
    refine va_forget (fun q hq => V.2.2.2.2 q hq) (W.widen hc hs (W.base ?_))
    exact lw_ret (d0 := s.drawn) (Drawn.sameBut.refl s.drawn lw_cs) hx hb hr hlocks hdg
  have z1316 : ∀ k : Nat, k ≠ 1316 → (upd (fun _ => 0) (1316 : Int32).toNatClampNeg 8) k = 0 := fun k h => if_neg h
  exact law_loop hfl 108 17302 (by decide) (by decide) hL F hX hbl hbA q17 q0 z0 z9 z18 z21 z23 z24 z19 z1 z4 z2 z3 z5 z6 z7 z8 z25 z26 z22 z10 z13 z11 z12 z14 z15 z16 z17 z20 q8 m0 m1 m2 m3 m4 m5 m6 fin 513 0 (by decide) (nI 0) _ _ _ _ _ _ _ _ _ _ _ _ _ _ _ _ _ _ _ _ _ _ _ _ _ _ _ _ _ _ _ _ _ _ _ _ _ _ _ _ _ _ _ _ _ _ _ _ _ _ _ _ _ rfl _ _ (Nat.le_of_ble_eq_true rfl) (Nat.le_of_ble_eq_true rfl) V2 hl (law_run hL 512 0 (by omega) (by decide) (LwR_0 (fun i h => h) (fun i j _ _ h => h) (z1316 0 (by decide)) (z1316 337 (by decide)) (z1316 399 (by decide)) (z1316 1315 (by decide)) (if_pos rfl)))
