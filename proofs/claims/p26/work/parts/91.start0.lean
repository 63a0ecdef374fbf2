/-! the start: what the tables and the Statement say of it -/
abbrev stG : Cond := Jvm.Cond.and given_1 narrow_1
abbrev stKL : Term := .static "ChordDesk" "KEY_LETTERS" "[C"
set_option maxRecDepth 100000 in
theorem st_nest : ∀ w ∈ kNest, w ∈ lw_tbl := by decide +kernel
theorem st_nestT : ∀ w ∈ kNest, w.onTables = true := by decide +kernel
set_option maxRecDepth 100000 in
theorem st_ao : Cond.arrayOver (.object "ChordDesk$State") ∈ lw_tbl := by decide +kernel
set_option maxRecDepth 100000 in
theorem st_key : ∀ j : Fin 12, Cond.eq (.elem stKL (.int (Int32.ofNat j.val))) (.int (kLet j.val)) ∈ flatC stG := by decide +kernel
set_option maxRecDepth 100000 in
theorem st_len : Cond.eq (.length stKL) (.int (Int32.ofNat 12)) ∈ flatC stG := by decide +kernel
set_option maxRecDepth 100000 in
theorem st_arr : Cond.arrayOf stKL .char ∈ flatC stG := by decide +kernel
set_option maxRecDepth 100000 in
theorem st_w : ∀ w ∈ [Cond.laysStatic "ChordDesk" "KEY_LETTERS" "[C", .initialized "ChordDesk", .laysStatic Bundle.tN "UNASSIGNED_STACK" Bundle.steD, .initialized Bundle.tN, .laysStatic Bundle.tN "SUPPRESSED_SENTINEL" Bundle.listD, .arrayClass .int, .arrayClass .long], w ∈ lw_tbl := by decide +kernel
set_option maxRecDepth 100000 in
theorem st_r : ∀ w ∈ [Cond.isRef (.static Bundle.tN "UNASSIGNED_STACK" Bundle.steD), .isRef (.static Bundle.tN "SUPPRESSED_SENTINEL" Bundle.listD)], w ∈ flatC stG := by decide +kernel
set_option maxRecDepth 100000 in
theorem st_i : ∀ w ∈ [Cond.instantiable RX0 2, .instantiable RX1 3, .instantiable RX2 2, .instantiable RX4 6, .instantiable RX7 9, .instantiable RX8 2, .instantiable RX10 3, .instantiable RX11 6], w ∈ lw_tbl := by decide +kernel
set_option maxRecDepth 100000 in
theorem st_l : ∀ w ∈ [Cond.classLink RL 31 RX11, .initialized RX11, .methodLink RL 112 yX11_init, .instanceMethod yX11_init], w ∈ lw_tbl := by decide +kernel
theorem st_ZZ {s : State} {b : Nat} (hts : ∀ w ∈ lw_tbl, w.before #[Value.ref b] s = true) (hgv : stG.before #[Value.ref b] s = true) : ZZ (fun q : Nat => s.heap.size ≤ q) s s.heap := by
  have hf := flat_of_before _ hgv
  have hA : ∀ a : Nat, a < s.heap.size → ¬ (fun q : Nat => s.heap.size ≤ q) a := fun a h => Nat.not_le.mpr h
  have hw := fun (w : Cond) (h : w ∈ [Cond.laysStatic "ChordDesk" "KEY_LETTERS" "[C", .initialized "ChordDesk", .laysStatic Bundle.tN "UNASSIGNED_STACK" Bundle.steD, .initialized Bundle.tN, .laysStatic Bundle.tN "SUPPRESSED_SENTINEL" Bundle.listD, .arrayClass .int, .arrayClass .long]) => hts w (st_w w h)
  refine ⟨?_, ?_, ?_, ?_, ?_⟩
  · obtain ⟨t, ht, hT⟩ := va_Tof (args := #[Value.ref b]) (s := s) (tm := stKL) (ty := .char) (N := 12) (f := fun j => .int (kLet j)) (A := fun q : Nat => s.heap.size ≤ q) (by decide) (hf _ st_arr) (va_eqt (hf _ st_len)) (fun j hj => va_eqt (hf _ (st_key ⟨j, hj⟩))) hA
    exact ⟨t, va_Zref (hw _ (by simp)) (hw _ (by simp)) ht hA, hT⟩
  · exact vx_Zqof (hw _ (by simp)) (hw _ (by simp)) (hf _ (st_r _ (by simp))) hA
  · exact vx_Zqof (hw _ (by simp)) (hw _ (by simp)) (hf _ (st_r _ (by simp))) hA
  · exact fun w h => va_Nw.of (st_nestT w h) (hts w (st_nest w h))
  · exact va_AO.of (hts _ st_ao)
theorem st_K {s : State} {b : Nat} (hts : ∀ w ∈ lw_tbl, w.before #[Value.ref b] s = true) : ∃ g : kT, KK g s := by
  obtain ⟨c0, i0, h0⟩ := u_known (C := RX0) (T := TX0) (N := 2) (n := 2) hts in_wsX00 (hts _ (st_i _ (show Cond.instantiable RX0 2 ∈ _ by simp)))
  obtain ⟨c1, i1, h1⟩ := u_known (C := RX1) (T := TX1) (N := 3) (n := 3) hts in_wsX10 (hts _ (st_i _ (show Cond.instantiable RX1 3 ∈ _ by simp)))
  obtain ⟨c2, i2, h2⟩ := u_known (C := RX2) (T := TX2) (N := 2) (n := 2) hts in_wsX20 (hts _ (st_i _ (show Cond.instantiable RX2 2 ∈ _ by simp)))
  obtain ⟨c3, i3, h3⟩ := u_known (C := RX4) (T := TX4) (N := 6) (n := 6) hts in_wsX40 (hts _ (st_i _ (show Cond.instantiable RX4 6 ∈ _ by simp)))
  obtain ⟨c4, i4, h4⟩ := u_known (C := RX7) (T := TX7) (N := 9) (n := 9) hts in_wsX70 (hts _ (st_i _ (show Cond.instantiable RX7 9 ∈ _ by simp)))
  obtain ⟨c5, i5, h5⟩ := u_known (C := RX8) (T := TX8) (N := 2) (n := 2) hts in_wsX80 (hts _ (st_i _ (show Cond.instantiable RX8 2 ∈ _ by simp)))
  obtain ⟨c6, i6, h6⟩ := u_known (C := RX10) (T := TX10) (N := 3) (n := 3) hts in_wsX100 (hts _ (st_i _ (show Cond.instantiable RX10 3 ∈ _ by simp)))
  obtain ⟨c7, i7, h7⟩ := u_known (C := RX11) (T := TX11) (N := 6) (n := 6) hts in_wsX110 (hts _ (st_i _ (show Cond.instantiable RX11 6 ∈ _ by simp)))
  obtain ⟨ca, ka, pa, fa1, fa2, fa3⟩ := Cond.arrayClass_spec (args := #[Value.ref b]) (first := s) (o := none) (s := s) (idx := []) (hts _ (st_w (.arrayClass .int) (by simp)))
  obtain ⟨cl, kl', pl, fl1, fl2, fl3⟩ := Cond.arrayClass_spec (args := #[Value.ref b]) (first := s) (o := none) (s := s) (idx := []) (hts _ (st_w (.arrayClass .long) (by simp)))
  obtain ⟨ps, cs, ks, fs1, fs2, fs3, fs4, fs5⟩ := Cond.arrayOver_spec (args := #[Value.ref b]) (first := s) (o := none) (s := s) (idx := []) (hts _ st_ao)
  refine ⟨((fun k => if k = 0 then c0 else if k = 1 then c1 else if k = 2 then c2 else if k = 3 then c3 else if k = 4 then c4 else if k = 5 then c5 else if k = 6 then c6 else c7, fun k => if k = 0 then i0 else if k = 1 then i1 else if k = 2 then i2 else if k = 3 then i3 else if k = 4 then i4 else if k = 5 then i5 else if k = 6 then i6 else i7), ca, cl, cs), ⟨fun k q hq => ?_, fun k q hq => ?_⟩⟩
  · match k, hq with
    | 0, hq => cases hq; exact h0
    | 1, hq => cases hq; exact h1
    | 2, hq => cases hq; exact h2
    | 3, hq => cases hq; exact h3
    | 4, hq => cases hq; exact h4
    | 5, hq => cases hq; exact h5
    | 6, hq => cases hq; exact h6
    | 7, hq => cases hq; exact h7
    | k + 8, hq => simp [vwCl] at hq
  · match k, hq with
    | 0, hq => cases hq; exact ⟨fun n z => ⟨fun k h => (by cases h), ka, fa2, pa, fa3⟩, fa1⟩
    | 1, hq => cases hq; exact ⟨fun n z => ⟨fun k h => (by cases h), kl', fl2, pl, fl3⟩, fl1⟩
    | 2, hq => cases hq; exact ⟨fun n z => ⟨fun k h => (by cases h), ks, fs3, ps, fs4⟩, ks, ps, fs3, fs4, fs1, fs5⟩
    | k + 3, hq => simp at hq
