theorem hdL_translate : yL_translate.cls ≠ "java/lang/invoke/MethodHandle" ∧ yL_translate.cls ≠ "java/lang/invoke/VarHandle" ∧ (parseMethodDescriptor yL_translate.desc).map (fun d => d.parameters.length) = some 7 := by decide +kernel
set_option maxHeartbeats 4000000 in
set_option maxRecDepth 100000 in
theorem kL_translate (l : Launch) (g : kT) (a_p1 : Nat) (a_p2 : Nat) (a_p3 : Nat) (a_p4 : Nat) (a_p5 : Nat) (a_p6 : Nat) (a_p7 : Nat) (p1_n : Nat) (p2_n : Nat) (p3_n : Nat) (p4_n : Nat) (p5_n : Nat) (p6_n : Nat) (p7_n : Nat) (p1 : Nat → Int32) (p2 : Nat → Int64) (p3 : Nat → Int32) (p4 : Nat → Int32) (p5 : Nat → Int32) (p6 : Nat → Int64) (p7 : Nat → Int32) (P : (Nat → Int32) → (Nat → Int32) → (Nat → Int64) → (Nat → Int32) → Prop) (hw : wL_translate p1_n p2_n p3_n p4_n p5_n p6_n p7_n p1 p2 p3 P p4 p5 p6 p7) : Kv4 l g yL_translate wsL_translate 2 44 0 0 [.ref a_p1, .ref a_p2, .ref a_p3, .ref a_p4, .ref a_p5, .ref a_p6, .ref a_p7] (gAI g a_p1 p1_n p1 ++ (gAJ g a_p2 p2_n p2 ++ (gAI g a_p3 p3_n p3 ++ (gAI g a_p4 p4_n p4 ++ (gAI g a_p5 p5_n p5 ++ (gAJ g a_p6 p6_n p6 ++ (gAI g a_p7 p7_n p7))))))) P (fun p4 p5 p6 p7 => (gAI g a_p1 p1_n p1 ++ (gAJ g a_p2 p2_n p2 ++ (gAI g a_p3 p3_n p3 ++ (gAI g a_p4 p4_n p4 ++ (gAI g a_p5 p5_n p5 ++ (gAJ g a_p6 p6_n p6 ++ (gAI g a_p7 p7_n p7)))))))) := by
  refine Kv4.mk (cc := cL_translate) (nL := 12) (by decide +kernel) rfl (Nat.le_of_ble_eq_true rfl) ?_
  intro p e s m below meth c A Q ls F hl V ret _
  have hx := F.x
  have hb := F.b
  have hl : lv_has ls 12 [(0, .ref a_p1), (1, .ref a_p2), (2, .ref a_p3), (3, .ref a_p4), (4, .ref a_p5), (5, .ref a_p6), (6, .ref a_p7)] := hl
  have B202 :  ∀ (n : Nat), ∀ {H : Heap} {locs : List Loc} {ls : Array Slot} (v8 : Int32) (p4 : Nat → Int32) (p5 : Nat → Int32) (p6 : Nat → Int64) (p7 : Nat → Int32) (V : VW g A s.heap H locs (gAI g a_p1 p1_n p1 ++ (gAJ g a_p2 p2_n p2 ++ (gAI g a_p3 p3_n p3 ++ (gAI g a_p4 p4_n p4 ++ (gAI g a_p5 p5_n p5 ++ (gAJ g a_p6 p6_n p6 ++ (gAI g a_p7 p7_n p7)))))))) (hl : lv_has ls 12 [(3, .ref a_p4), (4, .ref a_p5), (6, .ref a_p7), (8, .int v8)]) (hw : wL_translate_202 p1_n p2_n p3_n p4_n p5_n p6_n p7_n p1 p2 p3 P n v8 p4 p5 p6 p7), W p l e (kR 2 44 0 0) s m ([.ref a_p1, .ref a_p2, .ref a_p3, .ref a_p4, .ref a_p5, .ref a_p6, .ref a_p7] : List Value).toArray below meth c H locs 0 0 Q (F0 m 202 ls []) := by
    intro n
    induction n with
    | zero => intro _ _ _ _ _ _ _ _ V hl hw; exact hw.elim
    | succ n ih =>
      intro H locs ls v8 p4 p5 p6 p7 V hl hw
      refine lv_iload hx hb dL_translate_202 (lv_at hl 3 rfl) ?_
      refine lv_aload hx hb dL_translate_204 (lv_at hl 2 rfl) ?_
      refine lv_iconst (v := 4) hx hb dL_translate_206 (by decide) ?_
      refine kiald F V 6 rfl hw.1 dL_translate_207 ?_
      have hw := hw.2
      refine lv_icmp_le (tgt := 238) hx hb dL_translate_208 (by decide) (fun c_208 => ?_) (fun c_208 => ?_)
      · have hw := hw.1 c_208
        exact ret _ _ _ _ _ _ _ _ dL_translate_238 V hw
      · have hw := hw.2 c_208
        refine lv_iload hx hb dL_translate_211 (lv_at hl 3 rfl) ?_
        refine lv_aload_n hx hb dL_translate_213 rfl (lv_at hl 0 rfl) ?_
        refine lv_aload hx hb dL_translate_214 (lv_at hl 2 rfl) ?_
        refine lv_iconst (v := 3) hx hb dL_translate_216 (by decide) ?_
        refine kiald F V 6 rfl hw.1 dL_translate_217 ?_
        have hw := hw.2
        refine kiald F V 3 rfl hw.1 dL_translate_218 ?_
        have hw := hw.2
        refine lv_isub hx hb dL_translate_219 ?_
        refine lv_topi (fun v8_220 ev8_220 => ?_)
        have hw := hw v8_220 ev8_220
        refine lv_istore (lv' := [(8, .int v8_220), (3, .ref a_p4), (4, .ref a_p5), (6, .ref a_p7)]) hx hb dL_translate_220 hl (by decide) rfl (fun ls hl => ?_)
        refine lv_aload hx hb dL_translate_222 (lv_at hl 2 rfl) ?_
        refine lv_aload hx hb dL_translate_224 (lv_at hl 3 rfl) ?_
        refine lv_iconst (v := 3) hx hb dL_translate_226 (by decide) ?_
        refine lv_dup2_11 hx hb dL_translate_227 rfl rfl ?_
        refine kiald F V 6 rfl hw.1 dL_translate_228 ?_
        have hw := hw.2
        refine lv_dup_x2 hx hb dL_translate_229 rfl rfl rfl ?_
        refine lv_iconst (v := 1) hx hb dL_translate_230 (by decide) ?_
        refine lv_iadd hx hb dL_translate_231 ?_
        refine kiast F V 6 rfl hw.1 dL_translate_232 (fun p7_232 ep7_232 H locs V => ?_)
        have hw := hw.2 p7_232 ep7_232
        have V : VW g A s.heap H locs (gAI g a_p1 p1_n p1 ++ (gAJ g a_p2 p2_n p2 ++ (gAI g a_p3 p3_n p3 ++ (gAI g a_p4 p4_n p4 ++ (gAI g a_p5 p5_n p5 ++ (gAJ g a_p6 p6_n p6 ++ (gAI g a_p7 p7_n p7_232))))))) := V
        refine lv_iconst (v := (-1)) hx hb dL_translate_233 (by decide) ?_
        refine kiast F V 4 rfl hw.1 dL_translate_234 (fun p5_234 ep5_234 H locs V => ?_)
        have hw := hw.2 p5_234 ep5_234
        have V : VW g A s.heap H locs (gAI g a_p1 p1_n p1 ++ (gAJ g a_p2 p2_n p2 ++ (gAI g a_p3 p3_n p3 ++ (gAI g a_p4 p4_n p4 ++ (gAI g a_p5 p5_n p5_234 ++ (gAJ g a_p6 p6_n p6 ++ (gAI g a_p7 p7_n p7_232))))))) := V
        refine lv_goto (tgt := 202) hx hb dL_translate_235 (by decide) ?_
        exact ih v8_220 p4 p5_234 p6 p7_232 V (lv_sub hl [1, 2, 3, 0] rfl) hw
  have B182 : ∀ (K47 : Int32 → Int32 → (Nat → Int32) → (Nat → Int32) → (Nat → Int64) → (Nat → Int32) → Prop) (k47 : ∀ {H : Heap} {locs : List Loc} {ls : Array Slot} (v7 : Int32) (v8 : Int32) (p4 : Nat → Int32) (p5 : Nat → Int32) (p6 : Nat → Int64) (p7 : Nat → Int32), VW g A s.heap H locs (gAI g a_p1 p1_n p1 ++ (gAJ g a_p2 p2_n p2 ++ (gAI g a_p3 p3_n p3 ++ (gAI g a_p4 p4_n p4 ++ (gAI g a_p5 p5_n p5 ++ (gAJ g a_p6 p6_n p6 ++ (gAI g a_p7 p7_n p7))))))) → lv_has ls 12 [(0, .ref a_p1), (1, .ref a_p2), (2, .ref a_p3), (3, .ref a_p4), (4, .ref a_p5), (5, .ref a_p6), (6, .ref a_p7), (7, .int v7), (8, .int v8)] → K47 v7 v8 p4 p5 p6 p7 → W p l e (kR 2 44 0 0) s m ([.ref a_p1, .ref a_p2, .ref a_p3, .ref a_p4, .ref a_p5, .ref a_p6, .ref a_p7] : List Value).toArray below meth c H locs 0 0 Q (F0 m 47 ls [])), ∀ {H : Heap} {locs : List Loc} {ls : Array Slot} (v7 : Int32) (v8 : Int32) (s1 : Int32) (s2 : Int64) (p4 : Nat → Int32) (p5 : Nat → Int32) (p6 : Nat → Int64) (p7 : Nat → Int32) (V : VW g A s.heap H locs (gAI g a_p1 p1_n p1 ++ (gAJ g a_p2 p2_n p2 ++ (gAI g a_p3 p3_n p3 ++ (gAI g a_p4 p4_n p4 ++ (gAI g a_p5 p5_n p5 ++ (gAJ g a_p6 p6_n p6 ++ (gAI g a_p7 p7_n p7)))))))) (hl : lv_has ls 12 [(0, .ref a_p1), (1, .ref a_p2), (2, .ref a_p3), (3, .ref a_p4), (4, .ref a_p5), (5, .ref a_p6), (6, .ref a_p7), (7, .int v7), (8, .int v8)]) (hw : wL_translate_182 p1_n p2_n p3_n p4_n p5_n p6_n p7_n p1 p2 p3 K47 P v7 v8 s1 s2 p4 p5 p6 p7), W p l e (kR 2 44 0 0) s m ([.ref a_p1, .ref a_p2, .ref a_p3, .ref a_p4, .ref a_p5, .ref a_p6, .ref a_p7] : List Value).toArray below meth c H locs 0 0 Q (F0 m 182 ls [.long s2, .int s1, .ref a_p6]) := by
    intro K47 k47 H locs ls v7 v8 s1 s2 p4 p5 p6 p7 V hl hw
    refine klast F V 5 rfl hw.1 dL_translate_182 (fun p6_182 ep6_182 H locs V => ?_)
    have hw := hw.2 p6_182 ep6_182
    have V : VW g A s.heap H locs (gAI g a_p1 p1_n p1 ++ (gAJ g a_p2 p2_n p2 ++ (gAI g a_p3 p3_n p3 ++ (gAI g a_p4 p4_n p4 ++ (gAI g a_p5 p5_n p5 ++ (gAJ g a_p6 p6_n p6_182 ++ (gAI g a_p7 p7_n p7))))))) := V
    refine lv_iload hx hb dL_translate_183 (lv_at hl 7 rfl) ?_
    refine lv_aload_n hx hb dL_translate_185 rfl (lv_at hl 3 rfl) ?_
    refine lv_aload hx hb dL_translate_186 (lv_at hl 6 rfl) ?_
    refine lv_iconst (v := 2) hx hb dL_translate_188 (by decide) ?_
    refine lv_dup2_11 hx hb dL_translate_189 rfl rfl ?_
    refine kiald F V 6 rfl hw.1 dL_translate_190 ?_
    have hw := hw.2
    refine lv_dup_x2 hx hb dL_translate_191 rfl rfl rfl ?_
    refine lv_iconst (v := 1) hx hb dL_translate_192 (by decide) ?_
    refine lv_iadd hx hb dL_translate_193 ?_
    refine kiast F V 6 rfl hw.1 dL_translate_194 (fun p7_194 ep7_194 H locs V => ?_)
    have hw := hw.2 p7_194 ep7_194
    have V : VW g A s.heap H locs (gAI g a_p1 p1_n p1 ++ (gAJ g a_p2 p2_n p2 ++ (gAI g a_p3 p3_n p3 ++ (gAI g a_p4 p4_n p4 ++ (gAI g a_p5 p5_n p5 ++ (gAJ g a_p6 p6_n p6_182 ++ (gAI g a_p7 p7_n p7_194))))))) := V
    refine kiald F V 3 rfl hw.1 dL_translate_195 ?_
    have hw := hw.2
    refine lv_iadd hx hb dL_translate_196 ?_
    refine lv_topi (fun v7_197 ev7_197 => ?_)
    have hw := hw v7_197 ev7_197
    refine lv_istore (lv' := [(7, .int v7_197), (0, .ref a_p1), (1, .ref a_p2), (2, .ref a_p3), (3, .ref a_p4), (4, .ref a_p5), (5, .ref a_p6), (6, .ref a_p7), (8, .int v8)]) hx hb dL_translate_197 hl (by decide) rfl (fun ls hl => ?_)
    refine lv_goto (tgt := 47) hx hb dL_translate_199 (by decide) ?_
    exact k47 v7_197 v8 p4 p5 p6_182 p7_194 V (lv_sub hl [1, 2, 3, 4, 5, 6, 7, 0, 8] rfl) hw
  have B147 : ∀ (K47 : Int32 → Int32 → (Nat → Int32) → (Nat → Int32) → (Nat → Int64) → (Nat → Int32) → Prop) (k47 : ∀ {H : Heap} {locs : List Loc} {ls : Array Slot} (v7 : Int32) (v8 : Int32) (p4 : Nat → Int32) (p5 : Nat → Int32) (p6 : Nat → Int64) (p7 : Nat → Int32), VW g A s.heap H locs (gAI g a_p1 p1_n p1 ++ (gAJ g a_p2 p2_n p2 ++ (gAI g a_p3 p3_n p3 ++ (gAI g a_p4 p4_n p4 ++ (gAI g a_p5 p5_n p5 ++ (gAJ g a_p6 p6_n p6 ++ (gAI g a_p7 p7_n p7))))))) → lv_has ls 12 [(0, .ref a_p1), (1, .ref a_p2), (2, .ref a_p3), (3, .ref a_p4), (4, .ref a_p5), (5, .ref a_p6), (6, .ref a_p7), (7, .int v7), (8, .int v8)] → K47 v7 v8 p4 p5 p6 p7 → W p l e (kR 2 44 0 0) s m ([.ref a_p1, .ref a_p2, .ref a_p3, .ref a_p4, .ref a_p5, .ref a_p6, .ref a_p7] : List Value).toArray below meth c H locs 0 0 Q (F0 m 47 ls [])), ∀ {H : Heap} {locs : List Loc} {ls : Array Slot} (v7 : Int32) (v8 : Int32) (v9 : Int32) (s1 : Int32) (s2 : Int32) (p4 : Nat → Int32) (p5 : Nat → Int32) (p6 : Nat → Int64) (p7 : Nat → Int32) (V : VW g A s.heap H locs (gAI g a_p1 p1_n p1 ++ (gAJ g a_p2 p2_n p2 ++ (gAI g a_p3 p3_n p3 ++ (gAI g a_p4 p4_n p4 ++ (gAI g a_p5 p5_n p5 ++ (gAJ g a_p6 p6_n p6 ++ (gAI g a_p7 p7_n p7)))))))) (hl : lv_has ls 12 [(0, .ref a_p1), (1, .ref a_p2), (2, .ref a_p3), (3, .ref a_p4), (4, .ref a_p5), (5, .ref a_p6), (6, .ref a_p7), (7, .int v7), (8, .int v8), (9, .int v9)]) (hw : wL_translate_147 p1_n p2_n p3_n p4_n p5_n p6_n p7_n p1 p2 p3 K47 P v7 v8 v9 s1 s2 p4 p5 p6 p7), W p l e (kR 2 44 0 0) s m ([.ref a_p1, .ref a_p2, .ref a_p3, .ref a_p4, .ref a_p5, .ref a_p6, .ref a_p7] : List Value).toArray below meth c H locs 0 0 Q (F0 m 147 ls [.int s2, .int s1, .ref a_p4]) := by
    intro K47 k47 H locs ls v7 v8 v9 s1 s2 p4 p5 p6 p7 V hl hw
    refine kiast F V 3 rfl hw.1 dL_translate_147 (fun p4_147 ep4_147 H locs V => ?_)
    have hw := hw.2 p4_147 ep4_147
    have V : VW g A s.heap H locs (gAI g a_p1 p1_n p1 ++ (gAJ g a_p2 p2_n p2 ++ (gAI g a_p3 p3_n p3 ++ (gAI g a_p4 p4_n p4_147 ++ (gAI g a_p5 p5_n p5 ++ (gAJ g a_p6 p6_n p6 ++ (gAI g a_p7 p7_n p7))))))) := V
    refine lv_aload hx hb dL_translate_148 (lv_at hl 4 rfl) ?_
    refine lv_aload hx hb dL_translate_150 (lv_at hl 6 rfl) ?_
    refine lv_iconst (v := 2) hx hb dL_translate_152 (by decide) ?_
    refine kiald F V 6 rfl hw.1 dL_translate_153 ?_
    have hw := hw.2
    refine lv_iload hx hb dL_translate_154 (lv_at hl 9 rfl) ?_
    refine kiast F V 4 rfl hw.1 dL_translate_156 (fun p5_156 ep5_156 H locs V => ?_)
    have hw := hw.2 p5_156 ep5_156
    have V : VW g A s.heap H locs (gAI g a_p1 p1_n p1 ++ (gAJ g a_p2 p2_n p2 ++ (gAI g a_p3 p3_n p3 ++ (gAI g a_p4 p4_n p4_147 ++ (gAI g a_p5 p5_n p5_156 ++ (gAJ g a_p6 p6_n p6 ++ (gAI g a_p7 p7_n p7))))))) := V
    refine lv_aload hx hb dL_translate_157 (lv_at hl 5 rfl) ?_
    refine lv_aload hx hb dL_translate_159 (lv_at hl 6 rfl) ?_
    refine lv_iconst (v := 2) hx hb dL_translate_161 (by decide) ?_
    refine kiald F V 6 rfl hw.1 dL_translate_162 ?_
    have hw := hw.2
    refine lv_iload hx hb dL_translate_163 (lv_at hl 9 rfl) ?_
    refine lv_if_ge (tgt := 178) hx hb dL_translate_165 (by decide) (fun c_165 => ?_) (fun c_165 => ?_)
    · have hw := hw.1 c_165
      refine lv_aload_n hx hb dL_translate_178 rfl (lv_at hl 1 rfl) ?_
      refine lv_iload hx hb dL_translate_179 (lv_at hl 9 rfl) ?_
      refine klald F V 1 rfl hw.1 dL_translate_181 ?_
      have hw := hw.2
      exact B182 K47 k47 v7 v8 (p7 (2 : Int32).toNatClampNeg) (p2 v9.toNatClampNeg) p4_147 p5_156 p6 p7 V (lv_sub hl [0, 1, 2, 3, 4, 5, 6, 7, 8] rfl) hw
    · have hw := hw.2 c_165
      refine lv_aload_n hx hb dL_translate_168 rfl (lv_at hl 2 rfl) ?_
      refine lv_iload hx hb dL_translate_169 (lv_at hl 7 rfl) ?_
      refine kiald F V 2 rfl hw.1 dL_translate_171 ?_
      have hw := hw.2
      refine kSl0n (rest := [.int (p7 (2 : Int32).toNatClampNeg), .ref a_p6]) F hl V (kL_spelled l g (p3 v7.toNatClampNeg) _ hw) gL_translate_L_spelled rfl 1 rfl hdL_spelled ⟨Nat.le_of_ble_eq_true rfl, Nat.le_of_ble_eq_true rfl⟩ ⟨Nat.le_of_ble_eq_true rfl, Nat.le_of_ble_eq_true rfl⟩ (Nat.le_of_ble_eq_true rfl) rfl dL_translate_172 (fun r_172 H locs hw V => ?_)
      refine lv_goto (tgt := 182) hx hb dL_translate_175 (by decide) ?_
      exact B182 K47 k47 v7 v8 (p7 (2 : Int32).toNatClampNeg) r_172 p4_147 p5_156 p6 p7 V (lv_sub hl [0, 1, 2, 3, 4, 5, 6, 7, 8] rfl) hw
  have B127 : ∀ (K47 : Int32 → Int32 → (Nat → Int32) → (Nat → Int32) → (Nat → Int64) → (Nat → Int32) → Prop) (k47 : ∀ {H : Heap} {locs : List Loc} {ls : Array Slot} (v7 : Int32) (v8 : Int32) (p4 : Nat → Int32) (p5 : Nat → Int32) (p6 : Nat → Int64) (p7 : Nat → Int32), VW g A s.heap H locs (gAI g a_p1 p1_n p1 ++ (gAJ g a_p2 p2_n p2 ++ (gAI g a_p3 p3_n p3 ++ (gAI g a_p4 p4_n p4 ++ (gAI g a_p5 p5_n p5 ++ (gAJ g a_p6 p6_n p6 ++ (gAI g a_p7 p7_n p7))))))) → lv_has ls 12 [(0, .ref a_p1), (1, .ref a_p2), (2, .ref a_p3), (3, .ref a_p4), (4, .ref a_p5), (5, .ref a_p6), (6, .ref a_p7), (7, .int v7), (8, .int v8)] → K47 v7 v8 p4 p5 p6 p7 → W p l e (kR 2 44 0 0) s m ([.ref a_p1, .ref a_p2, .ref a_p3, .ref a_p4, .ref a_p5, .ref a_p6, .ref a_p7] : List Value).toArray below meth c H locs 0 0 Q (F0 m 47 ls [])), ∀ {H : Heap} {locs : List Loc} {ls : Array Slot} (v7 : Int32) (v8 : Int32) (v9 : Int32) (p4 : Nat → Int32) (p5 : Nat → Int32) (p6 : Nat → Int64) (p7 : Nat → Int32) (V : VW g A s.heap H locs (gAI g a_p1 p1_n p1 ++ (gAJ g a_p2 p2_n p2 ++ (gAI g a_p3 p3_n p3 ++ (gAI g a_p4 p4_n p4 ++ (gAI g a_p5 p5_n p5 ++ (gAJ g a_p6 p6_n p6 ++ (gAI g a_p7 p7_n p7)))))))) (hl : lv_has ls 12 [(0, .ref a_p1), (1, .ref a_p2), (2, .ref a_p3), (3, .ref a_p4), (4, .ref a_p5), (5, .ref a_p6), (6, .ref a_p7), (7, .int v7), (8, .int v8), (9, .int v9)]) (hw : wL_translate_127 p1_n p2_n p3_n p4_n p5_n p6_n p7_n p1 p2 p3 K47 P v7 v8 v9 p4 p5 p6 p7), W p l e (kR 2 44 0 0) s m ([.ref a_p1, .ref a_p2, .ref a_p3, .ref a_p4, .ref a_p5, .ref a_p6, .ref a_p7] : List Value).toArray below meth c H locs 0 0 Q (F0 m 127 ls []) := by
    intro K47 k47 H locs ls v7 v8 v9 p4 p5 p6 p7 V hl hw
    refine lv_aload_n hx hb dL_translate_127 rfl (lv_at hl 3 rfl) ?_
    refine lv_aload hx hb dL_translate_128 (lv_at hl 6 rfl) ?_
    refine lv_iconst (v := 2) hx hb dL_translate_130 (by decide) ?_
    refine kiald F V 6 rfl hw.1 dL_translate_131 ?_
    have hw := hw.2
    refine lv_iload hx hb dL_translate_132 (lv_at hl 9 rfl) ?_
    refine lv_if_ge (tgt := 141) hx hb dL_translate_134 (by decide) (fun c_134 => ?_) (fun c_134 => ?_)
    · have hw := hw.1 c_134
      refine lv_aload_n hx hb dL_translate_141 rfl (lv_at hl 0 rfl) ?_
      refine lv_iconst (v := 5) hx hb dL_translate_142 (by decide) ?_
      refine lv_iload hx hb dL_translate_143 (lv_at hl 9 rfl) ?_
      refine lv_imul hx hb dL_translate_145 ?_
      refine kiald F V 0 rfl hw.1 dL_translate_146 ?_
      have hw := hw.2
      exact B147 K47 k47 v7 v8 v9 (p7 (2 : Int32).toNatClampNeg) (p1 (5 * v9).toNatClampNeg) p4 p5 p6 p7 V hl hw
    · have hw := hw.2 c_134
      refine lv_iconst (v := 1) hx hb dL_translate_137 (by decide) ?_
      refine lv_goto (tgt := 147) hx hb dL_translate_138 (by decide) ?_
      exact B147 K47 k47 v7 v8 v9 (p7 (2 : Int32).toNatClampNeg) 1 p4 p5 p6 p7 V hl hw
  have B115 : ∀ (K47 : Int32 → Int32 → (Nat → Int32) → (Nat → Int32) → (Nat → Int64) → (Nat → Int32) → Prop) (k47 : ∀ {H : Heap} {locs : List Loc} {ls : Array Slot} (v7 : Int32) (v8 : Int32) (p4 : Nat → Int32) (p5 : Nat → Int32) (p6 : Nat → Int64) (p7 : Nat → Int32), VW g A s.heap H locs (gAI g a_p1 p1_n p1 ++ (gAJ g a_p2 p2_n p2 ++ (gAI g a_p3 p3_n p3 ++ (gAI g a_p4 p4_n p4 ++ (gAI g a_p5 p5_n p5 ++ (gAJ g a_p6 p6_n p6 ++ (gAI g a_p7 p7_n p7))))))) → lv_has ls 12 [(0, .ref a_p1), (1, .ref a_p2), (2, .ref a_p3), (3, .ref a_p4), (4, .ref a_p5), (5, .ref a_p6), (6, .ref a_p7), (7, .int v7), (8, .int v8)] → K47 v7 v8 p4 p5 p6 p7 → W p l e (kR 2 44 0 0) s m ([.ref a_p1, .ref a_p2, .ref a_p3, .ref a_p4, .ref a_p5, .ref a_p6, .ref a_p7] : List Value).toArray below meth c H locs 0 0 Q (F0 m 47 ls [])) (K62 : Int32 → Int32 → Int32 → Int32 → (Nat → Int32) → (Nat → Int32) → (Nat → Int64) → (Nat → Int32) → Prop) (k62 : ∀ {H : Heap} {locs : List Loc} {ls : Array Slot} (v7 : Int32) (v8 : Int32) (v9 : Int32) (v10 : Int32) (p4 : Nat → Int32) (p5 : Nat → Int32) (p6 : Nat → Int64) (p7 : Nat → Int32), VW g A s.heap H locs (gAI g a_p1 p1_n p1 ++ (gAJ g a_p2 p2_n p2 ++ (gAI g a_p3 p3_n p3 ++ (gAI g a_p4 p4_n p4 ++ (gAI g a_p5 p5_n p5 ++ (gAJ g a_p6 p6_n p6 ++ (gAI g a_p7 p7_n p7))))))) → lv_has ls 12 [(0, .ref a_p1), (1, .ref a_p2), (2, .ref a_p3), (3, .ref a_p4), (4, .ref a_p5), (5, .ref a_p6), (6, .ref a_p7), (7, .int v7), (8, .int v8), (9, .int v9), (10, .int v10)] → K62 v7 v8 v9 v10 p4 p5 p6 p7 → W p l e (kR 2 44 0 0) s m ([.ref a_p1, .ref a_p2, .ref a_p3, .ref a_p4, .ref a_p5, .ref a_p6, .ref a_p7] : List Value).toArray below meth c H locs 0 0 Q (F0 m 62 ls [])) (K75 : Int32 → Int32 → Int32 → Int32 → Int32 → (Nat → Int32) → (Nat → Int32) → (Nat → Int64) → (Nat → Int32) → Prop) (k75 : ∀ {H : Heap} {locs : List Loc} {ls : Array Slot} (v7 : Int32) (v8 : Int32) (v9 : Int32) (v10 : Int32) (v11 : Int32) (p4 : Nat → Int32) (p5 : Nat → Int32) (p6 : Nat → Int64) (p7 : Nat → Int32), VW g A s.heap H locs (gAI g a_p1 p1_n p1 ++ (gAJ g a_p2 p2_n p2 ++ (gAI g a_p3 p3_n p3 ++ (gAI g a_p4 p4_n p4 ++ (gAI g a_p5 p5_n p5 ++ (gAJ g a_p6 p6_n p6 ++ (gAI g a_p7 p7_n p7))))))) → lv_has ls 12 [(0, .ref a_p1), (1, .ref a_p2), (2, .ref a_p3), (3, .ref a_p4), (4, .ref a_p5), (5, .ref a_p6), (6, .ref a_p7), (7, .int v7), (8, .int v8), (9, .int v9), (10, .int v10), (11, .int v11)] → K75 v7 v8 v9 v10 v11 p4 p5 p6 p7 → W p l e (kR 2 44 0 0) s m ([.ref a_p1, .ref a_p2, .ref a_p3, .ref a_p4, .ref a_p5, .ref a_p6, .ref a_p7] : List Value).toArray below meth c H locs 0 0 Q (F0 m 75 ls [])), ∀ {H : Heap} {locs : List Loc} {ls : Array Slot} (v7 : Int32) (v8 : Int32) (v9 : Int32) (v10 : Int32) (v11 : Int32) (p4 : Nat → Int32) (p5 : Nat → Int32) (p6 : Nat → Int64) (p7 : Nat → Int32) (V : VW g A s.heap H locs (gAI g a_p1 p1_n p1 ++ (gAJ g a_p2 p2_n p2 ++ (gAI g a_p3 p3_n p3 ++ (gAI g a_p4 p4_n p4 ++ (gAI g a_p5 p5_n p5 ++ (gAJ g a_p6 p6_n p6 ++ (gAI g a_p7 p7_n p7)))))))) (hl : lv_has ls 12 [(0, .ref a_p1), (1, .ref a_p2), (2, .ref a_p3), (3, .ref a_p4), (4, .ref a_p5), (5, .ref a_p6), (6, .ref a_p7), (7, .int v7), (8, .int v8), (9, .int v9), (10, .int v10), (11, .int v11)]) (hw : wL_translate_115 p1_n p2_n p3_n p4_n p5_n p6_n p7_n p1 p2 p3 K47 K62 K75 P v7 v8 v9 v10 v11 p4 p5 p6 p7), W p l e (kR 2 44 0 0) s m ([.ref a_p1, .ref a_p2, .ref a_p3, .ref a_p4, .ref a_p5, .ref a_p6, .ref a_p7] : List Value).toArray below meth c H locs 0 0 Q (F0 m 115 ls []) := by
    intro K47 k47 K62 k62 K75 k75 H locs ls v7 v8 v9 v10 v11 p4 p5 p6 p7 V hl hw
    refine lv_iinc (v := v11 + 1) (lv' := [(11, .int (v11 + 1)), (0, .ref a_p1), (1, .ref a_p2), (2, .ref a_p3), (3, .ref a_p4), (4, .ref a_p5), (5, .ref a_p6), (6, .ref a_p7), (7, .int v7), (8, .int v8), (9, .int v9), (10, .int v10)]) hx hb dL_translate_115 hl (k := 11) rfl rfl (by decide) rfl (fun ls hl => ?_)
    refine lv_goto (tgt := 75) hx hb dL_translate_118 (by decide) ?_
    exact k75 v7 v8 v9 v10 (v11 + 1) p4 p5 p6 p7 V (lv_sub hl [1, 2, 3, 4, 5, 6, 7, 8, 9, 10, 11, 0] rfl) hw
  have B75 : ∀ (K47 : Int32 → Int32 → (Nat → Int32) → (Nat → Int32) → (Nat → Int64) → (Nat → Int32) → Prop) (k47 : ∀ {H : Heap} {locs : List Loc} {ls : Array Slot} (v7 : Int32) (v8 : Int32) (p4 : Nat → Int32) (p5 : Nat → Int32) (p6 : Nat → Int64) (p7 : Nat → Int32), VW g A s.heap H locs (gAI g a_p1 p1_n p1 ++ (gAJ g a_p2 p2_n p2 ++ (gAI g a_p3 p3_n p3 ++ (gAI g a_p4 p4_n p4 ++ (gAI g a_p5 p5_n p5 ++ (gAJ g a_p6 p6_n p6 ++ (gAI g a_p7 p7_n p7))))))) → lv_has ls 12 [(0, .ref a_p1), (1, .ref a_p2), (2, .ref a_p3), (3, .ref a_p4), (4, .ref a_p5), (5, .ref a_p6), (6, .ref a_p7), (7, .int v7), (8, .int v8)] → K47 v7 v8 p4 p5 p6 p7 → W p l e (kR 2 44 0 0) s m ([.ref a_p1, .ref a_p2, .ref a_p3, .ref a_p4, .ref a_p5, .ref a_p6, .ref a_p7] : List Value).toArray below meth c H locs 0 0 Q (F0 m 47 ls [])) (K62 : Int32 → Int32 → Int32 → Int32 → (Nat → Int32) → (Nat → Int32) → (Nat → Int64) → (Nat → Int32) → Prop) (k62 : ∀ {H : Heap} {locs : List Loc} {ls : Array Slot} (v7 : Int32) (v8 : Int32) (v9 : Int32) (v10 : Int32) (p4 : Nat → Int32) (p5 : Nat → Int32) (p6 : Nat → Int64) (p7 : Nat → Int32), VW g A s.heap H locs (gAI g a_p1 p1_n p1 ++ (gAJ g a_p2 p2_n p2 ++ (gAI g a_p3 p3_n p3 ++ (gAI g a_p4 p4_n p4 ++ (gAI g a_p5 p5_n p5 ++ (gAJ g a_p6 p6_n p6 ++ (gAI g a_p7 p7_n p7))))))) → lv_has ls 12 [(0, .ref a_p1), (1, .ref a_p2), (2, .ref a_p3), (3, .ref a_p4), (4, .ref a_p5), (5, .ref a_p6), (6, .ref a_p7), (7, .int v7), (8, .int v8), (9, .int v9), (10, .int v10)] → K62 v7 v8 v9 v10 p4 p5 p6 p7 → W p l e (kR 2 44 0 0) s m ([.ref a_p1, .ref a_p2, .ref a_p3, .ref a_p4, .ref a_p5, .ref a_p6, .ref a_p7] : List Value).toArray below meth c H locs 0 0 Q (F0 m 62 ls [])), ∀ (n : Nat), ∀ {H : Heap} {locs : List Loc} {ls : Array Slot} (v7 : Int32) (v8 : Int32) (v9 : Int32) (v10 : Int32) (v11 : Int32) (p4 : Nat → Int32) (p5 : Nat → Int32) (p6 : Nat → Int64) (p7 : Nat → Int32) (V : VW g A s.heap H locs (gAI g a_p1 p1_n p1 ++ (gAJ g a_p2 p2_n p2 ++ (gAI g a_p3 p3_n p3 ++ (gAI g a_p4 p4_n p4 ++ (gAI g a_p5 p5_n p5 ++ (gAJ g a_p6 p6_n p6 ++ (gAI g a_p7 p7_n p7)))))))) (hl : lv_has ls 12 [(0, .ref a_p1), (1, .ref a_p2), (2, .ref a_p3), (3, .ref a_p4), (4, .ref a_p5), (5, .ref a_p6), (6, .ref a_p7), (7, .int v7), (8, .int v8), (9, .int v9), (10, .int v10), (11, .int v11)]) (hw : wL_translate_75 p1_n p2_n p3_n p4_n p5_n p6_n p7_n p1 p2 p3 K47 K62 P n v7 v8 v9 v10 v11 p4 p5 p6 p7), W p l e (kR 2 44 0 0) s m ([.ref a_p1, .ref a_p2, .ref a_p3, .ref a_p4, .ref a_p5, .ref a_p6, .ref a_p7] : List Value).toArray below meth c H locs 0 0 Q (F0 m 75 ls []) := by
    intro K47 k47 K62 k62
    intro n
    induction n with
    | zero => intro _ _ _ _ _ _ _ _ _ _ _ _ V hl hw; exact hw.elim
    | succ n ih =>
      intro H locs ls v7 v8 v9 v10 v11 p4 p5 p6 p7 V hl hw
      refine lv_iload hx hb dL_translate_75 (lv_at hl 11 rfl) ?_
      refine lv_aload hx hb dL_translate_77 (lv_at hl 6 rfl) ?_
      refine lv_iconst (v := 0) hx hb dL_translate_79 (by decide) ?_
      refine kiald F V 6 rfl hw.1 dL_translate_80 ?_
      have hw := hw.2
      refine lv_icmp_ge (tgt := 121) hx hb dL_translate_81 (by decide) (fun c_81 => ?_) (fun c_81 => ?_)
      · have hw := hw.1 c_81
        refine lv_iinc (v := v10 + (-1)) (lv' := [(10, .int (v10 + (-1))), (0, .ref a_p1), (1, .ref a_p2), (2, .ref a_p3), (3, .ref a_p4), (4, .ref a_p5), (5, .ref a_p6), (6, .ref a_p7), (7, .int v7), (8, .int v8), (9, .int v9), (11, .int v11)]) hx hb dL_translate_121 hl (k := 10) rfl rfl (by decide) rfl (fun ls hl => ?_)
        refine lv_goto (tgt := 62) hx hb dL_translate_124 (by decide) ?_
        exact k62 v7 v8 v9 (v10 + (-1)) p4 p5 p6 p7 V (lv_sub hl [1, 2, 3, 4, 5, 6, 7, 8, 9, 10, 0] rfl) hw
      · have hw := hw.2 c_81
        refine lv_aload_n hx hb dL_translate_84 rfl (lv_at hl 0 rfl) ?_
        refine lv_iconst (v := 5) hx hb dL_translate_85 (by decide) ?_
        refine lv_iload hx hb dL_translate_86 (lv_at hl 11 rfl) ?_
        refine lv_imul hx hb dL_translate_88 ?_
        refine kiald F V 0 rfl hw.1 dL_translate_89 ?_
        have hw := hw.2
        refine lv_iload hx hb dL_translate_90 (lv_at hl 10 rfl) ?_
        refine lv_icmp_ne (tgt := 115) hx hb dL_translate_92 (by decide) (fun c_92 => ?_) (fun c_92 => ?_)
        · have hw := hw.1 c_92
          exact B115 K47 k47 K62 k62 (wL_translate_75 p1_n p2_n p3_n p4_n p5_n p6_n p7_n p1 p2 p3 K47 K62 P n) ih v7 v8 v9 v10 v11 p4 p5 p6 p7 V hl hw
        · have hw := hw.2 c_92
          refine lv_iload hx hb dL_translate_95 (lv_at hl 11 rfl) ?_
          refine lv_iload hx hb dL_translate_97 (lv_at hl 7 rfl) ?_
          refine lv_aload hx hb dL_translate_99 (lv_at hl 6 rfl) ?_
          refine lv_iconst (v := 1) hx hb dL_translate_101 (by decide) ?_
          refine kiald F V 6 rfl hw.1 dL_translate_102 ?_
          have hw := hw.2
          refine lv_aload_n hx hb dL_translate_103 rfl (lv_at hl 2 rfl) ?_
          refine lv_aload_n hx hb dL_translate_104 rfl (lv_at hl 0 rfl) ?_
          refine kSi0 (rest := []) F hl V [2, 0] [1, 3, 4, 5, 6] [6, 0, 5, 1, 2, 3, 4] (gAI g a_p1 p1_n p1 ++ (gAJ g a_p2 p2_n p2 ++ (gAI g a_p3 p3_n p3 ++ (gAI g a_p4 p4_n p4 ++ (gAI g a_p5 p5_n p5 ++ (gAJ g a_p6 p6_n p6 ++ (gAI g a_p7 p7_n p7))))))) (kL_goesOn l g a_p3 a_p1 p3_n p1_n p3 p1 v11 v7 (p7 (1 : Int32).toNatClampNeg) _ hw) gL_translate_L_goesOn rfl 5 rfl hdL_goesOn rfl rfl (fun _ => rfl) rfl rfl rfl (by decide) ⟨Nat.le_of_ble_eq_true rfl, Nat.le_of_ble_eq_true rfl⟩ ⟨Nat.le_of_ble_eq_true rfl, Nat.le_of_ble_eq_true rfl⟩ (Nat.le_of_ble_eq_true rfl) rfl dL_translate_105 (fun r_105 H locs hw V => ?_)
          refine lv_if_eq (tgt := 115) hx hb dL_translate_108 (by decide) (fun c_108 => ?_) (fun c_108 => ?_)
          · have hw := hw.1 c_108
            exact B115 K47 k47 K62 k62 (wL_translate_75 p1_n p2_n p3_n p4_n p5_n p6_n p7_n p1 p2 p3 K47 K62 P n) ih v7 v8 v9 v10 v11 p4 p5 p6 p7 V hl hw
          · have hw := hw.2 c_108
            refine lv_iload hx hb dL_translate_111 (lv_at hl 11 rfl) ?_
            refine lv_istore (lv' := [(9, .int v11), (0, .ref a_p1), (1, .ref a_p2), (2, .ref a_p3), (3, .ref a_p4), (4, .ref a_p5), (5, .ref a_p6), (6, .ref a_p7), (7, .int v7), (8, .int v8), (10, .int v10), (11, .int v11)]) hx hb dL_translate_113 hl (by decide) rfl (fun ls hl => ?_)
            exact B115 K47 k47 K62 k62 (wL_translate_75 p1_n p2_n p3_n p4_n p5_n p6_n p7_n p1 p2 p3 K47 K62 P n) ih v7 v8 v11 v10 v11 p4 p5 p6 p7 V (lv_sub hl [1, 2, 3, 4, 5, 6, 7, 8, 9, 0, 10, 11] rfl) hw
  have B62 : ∀ (K47 : Int32 → Int32 → (Nat → Int32) → (Nat → Int32) → (Nat → Int64) → (Nat → Int32) → Prop) (k47 : ∀ {H : Heap} {locs : List Loc} {ls : Array Slot} (v7 : Int32) (v8 : Int32) (p4 : Nat → Int32) (p5 : Nat → Int32) (p6 : Nat → Int64) (p7 : Nat → Int32), VW g A s.heap H locs (gAI g a_p1 p1_n p1 ++ (gAJ g a_p2 p2_n p2 ++ (gAI g a_p3 p3_n p3 ++ (gAI g a_p4 p4_n p4 ++ (gAI g a_p5 p5_n p5 ++ (gAJ g a_p6 p6_n p6 ++ (gAI g a_p7 p7_n p7))))))) → lv_has ls 12 [(0, .ref a_p1), (1, .ref a_p2), (2, .ref a_p3), (3, .ref a_p4), (4, .ref a_p5), (5, .ref a_p6), (6, .ref a_p7), (7, .int v7), (8, .int v8)] → K47 v7 v8 p4 p5 p6 p7 → W p l e (kR 2 44 0 0) s m ([.ref a_p1, .ref a_p2, .ref a_p3, .ref a_p4, .ref a_p5, .ref a_p6, .ref a_p7] : List Value).toArray below meth c H locs 0 0 Q (F0 m 47 ls [])), ∀ (n : Nat), ∀ {H : Heap} {locs : List Loc} {ls : Array Slot} (v7 : Int32) (v8 : Int32) (v9 : Int32) (v10 : Int32) (p4 : Nat → Int32) (p5 : Nat → Int32) (p6 : Nat → Int64) (p7 : Nat → Int32) (V : VW g A s.heap H locs (gAI g a_p1 p1_n p1 ++ (gAJ g a_p2 p2_n p2 ++ (gAI g a_p3 p3_n p3 ++ (gAI g a_p4 p4_n p4 ++ (gAI g a_p5 p5_n p5 ++ (gAJ g a_p6 p6_n p6 ++ (gAI g a_p7 p7_n p7)))))))) (hl : lv_has ls 12 [(0, .ref a_p1), (1, .ref a_p2), (2, .ref a_p3), (3, .ref a_p4), (4, .ref a_p5), (5, .ref a_p6), (6, .ref a_p7), (7, .int v7), (8, .int v8), (9, .int v9), (10, .int v10)]) (hw : wL_translate_62 p1_n p2_n p3_n p4_n p5_n p6_n p7_n p1 p2 p3 K47 P n v7 v8 v9 v10 p4 p5 p6 p7), W p l e (kR 2 44 0 0) s m ([.ref a_p1, .ref a_p2, .ref a_p3, .ref a_p4, .ref a_p5, .ref a_p6, .ref a_p7] : List Value).toArray below meth c H locs 0 0 Q (F0 m 62 ls []) := by
    intro K47 k47
    intro n
    induction n with
    | zero => intro _ _ _ _ _ _ _ _ _ _ _ V hl hw; exact hw.elim
    | succ n ih =>
      intro H locs ls v7 v8 v9 v10 p4 p5 p6 p7 V hl hw
      refine lv_iload hx hb dL_translate_62 (lv_at hl 10 rfl) ?_
      refine lv_if_le (tgt := 127) hx hb dL_translate_64 (by decide) (fun c_64 => ?_) (fun c_64 => ?_)
      · have hw := hw.1 c_64
        exact B127 K47 k47 v7 v8 v9 p4 p5 p6 p7 V (lv_sub hl [0, 1, 2, 3, 4, 5, 6, 7, 8, 9] rfl) hw
      · have hw := hw.2 c_64
        refine lv_iload hx hb dL_translate_67 (lv_at hl 9 rfl) ?_
        refine lv_if_ge (tgt := 127) hx hb dL_translate_69 (by decide) (fun c_69 => ?_) (fun c_69 => ?_)
        · have hw := hw.1 c_69
          exact B127 K47 k47 v7 v8 v9 p4 p5 p6 p7 V (lv_sub hl [0, 1, 2, 3, 4, 5, 6, 7, 8, 9] rfl) hw
        · have hw := hw.2 c_69
          refine lv_iconst (v := 0) hx hb dL_translate_72 (by decide) ?_
          refine lv_istore (lv' := [(11, .int 0), (0, .ref a_p1), (1, .ref a_p2), (2, .ref a_p3), (3, .ref a_p4), (4, .ref a_p5), (5, .ref a_p6), (6, .ref a_p7), (7, .int v7), (8, .int v8), (9, .int v9), (10, .int v10)]) hx hb dL_translate_73 hl (by decide) rfl (fun ls hl => ?_)
          obtain ⟨n_75, hw⟩ := hw
          exact B75 K47 k47 (wL_translate_62 p1_n p2_n p3_n p4_n p5_n p6_n p7_n p1 p2 p3 K47 P n) ih n_75 v7 v8 v9 v10 0 p4 p5 p6 p7 V (lv_sub hl [1, 2, 3, 4, 5, 6, 7, 8, 9, 10, 11, 0] rfl) hw
  have B47 :  ∀ (n : Nat), ∀ {H : Heap} {locs : List Loc} {ls : Array Slot} (v7 : Int32) (v8 : Int32) (p4 : Nat → Int32) (p5 : Nat → Int32) (p6 : Nat → Int64) (p7 : Nat → Int32) (V : VW g A s.heap H locs (gAI g a_p1 p1_n p1 ++ (gAJ g a_p2 p2_n p2 ++ (gAI g a_p3 p3_n p3 ++ (gAI g a_p4 p4_n p4 ++ (gAI g a_p5 p5_n p5 ++ (gAJ g a_p6 p6_n p6 ++ (gAI g a_p7 p7_n p7)))))))) (hl : lv_has ls 12 [(0, .ref a_p1), (1, .ref a_p2), (2, .ref a_p3), (3, .ref a_p4), (4, .ref a_p5), (5, .ref a_p6), (6, .ref a_p7), (7, .int v7), (8, .int v8)]) (hw : wL_translate_47 p1_n p2_n p3_n p4_n p5_n p6_n p7_n p1 p2 p3 P n v7 v8 p4 p5 p6 p7), W p l e (kR 2 44 0 0) s m ([.ref a_p1, .ref a_p2, .ref a_p3, .ref a_p4, .ref a_p5, .ref a_p6, .ref a_p7] : List Value).toArray below meth c H locs 0 0 Q (F0 m 47 ls []) := by
    intro n
    induction n with
    | zero => intro _ _ _ _ _ _ _ _ _ V hl hw; exact hw.elim
    | succ n ih =>
      intro H locs ls v7 v8 p4 p5 p6 p7 V hl hw
      refine lv_iload hx hb dL_translate_47 (lv_at hl 7 rfl) ?_
      refine lv_aload hx hb dL_translate_49 (lv_at hl 6 rfl) ?_
      refine lv_iconst (v := 1) hx hb dL_translate_51 (by decide) ?_
      refine kiald F V 6 rfl hw.1 dL_translate_52 ?_
      have hw := hw.2
      refine lv_icmp_ge (tgt := 202) hx hb dL_translate_53 (by decide) (fun c_53 => ?_) (fun c_53 => ?_)
      · have hw := hw.1 c_53
        obtain ⟨n_202, hw⟩ := hw
        exact B202  n_202 v8 p4 p5 p6 p7 V (lv_sub hl [3, 4, 6, 8] rfl) hw
      · have hw := hw.2 c_53
        refine lv_iconst (v := (-1)) hx hb dL_translate_56 (by decide) ?_
        refine lv_istore (lv' := [(9, .int (-1)), (0, .ref a_p1), (1, .ref a_p2), (2, .ref a_p3), (3, .ref a_p4), (4, .ref a_p5), (5, .ref a_p6), (6, .ref a_p7), (7, .int v7), (8, .int v8)]) hx hb dL_translate_57 hl (by decide) rfl (fun ls hl => ?_)
        refine lv_iconst (v := 4) hx hb dL_translate_59 (by decide) ?_
        refine lv_istore (lv' := [(10, .int 4), (9, .int (-1)), (0, .ref a_p1), (1, .ref a_p2), (2, .ref a_p3), (3, .ref a_p4), (4, .ref a_p5), (5, .ref a_p6), (6, .ref a_p7), (7, .int v7), (8, .int v8)]) hx hb dL_translate_60 hl (by decide) rfl (fun ls hl => ?_)
        obtain ⟨n_62, hw⟩ := hw
        exact B62 (wL_translate_47 p1_n p2_n p3_n p4_n p5_n p6_n p7_n p1 p2 p3 P n) ih n_62 v7 v8 (-1) 4 p4 p5 p6 p7 V (lv_sub hl [2, 3, 4, 5, 6, 7, 8, 9, 10, 1, 0] rfl) hw
  have B6 :  ∀ (n : Nat), ∀ {H : Heap} {locs : List Loc} {ls : Array Slot} (v7 : Int32) (v8 : Int32) (p4 : Nat → Int32) (p5 : Nat → Int32) (p6 : Nat → Int64) (p7 : Nat → Int32) (V : VW g A s.heap H locs (gAI g a_p1 p1_n p1 ++ (gAJ g a_p2 p2_n p2 ++ (gAI g a_p3 p3_n p3 ++ (gAI g a_p4 p4_n p4 ++ (gAI g a_p5 p5_n p5 ++ (gAJ g a_p6 p6_n p6 ++ (gAI g a_p7 p7_n p7)))))))) (hl : lv_has ls 12 [(0, .ref a_p1), (1, .ref a_p2), (2, .ref a_p3), (3, .ref a_p4), (4, .ref a_p5), (5, .ref a_p6), (6, .ref a_p7), (7, .int v7), (8, .int v8)]) (hw : wL_translate_6 p1_n p2_n p3_n p4_n p5_n p6_n p7_n p1 p2 p3 P n v7 v8 p4 p5 p6 p7), W p l e (kR 2 44 0 0) s m ([.ref a_p1, .ref a_p2, .ref a_p3, .ref a_p4, .ref a_p5, .ref a_p6, .ref a_p7] : List Value).toArray below meth c H locs 0 0 Q (F0 m 6 ls []) := by
    intro n
    induction n with
    | zero => intro _ _ _ _ _ _ _ _ _ V hl hw; exact hw.elim
    | succ n ih =>
      intro H locs ls v7 v8 p4 p5 p6 p7 V hl hw
      refine lv_iload hx hb dL_translate_6 (lv_at hl 8 rfl) ?_
      refine lv_aload hx hb dL_translate_8 (lv_at hl 6 rfl) ?_
      refine lv_iconst (v := 3) hx hb dL_translate_10 (by decide) ?_
      refine kiald F V 6 rfl hw.1 dL_translate_11 ?_
      have hw := hw.2
      refine lv_icmp_ge (tgt := 30) hx hb dL_translate_12 (by decide) (fun c_12 => ?_) (fun c_12 => ?_)
      · have hw := hw.1 c_12
        refine lv_aload hx hb dL_translate_30 (lv_at hl 6 rfl) ?_
        refine lv_iconst (v := 1) hx hb dL_translate_32 (by decide) ?_
        refine kiald F V 6 rfl hw.1 dL_translate_33 ?_
        have hw := hw.2
        refine lv_iload hx hb dL_translate_34 (lv_at hl 7 rfl) ?_
        refine lv_isub hx hb dL_translate_36 ?_
        refine lv_topi (fun v8_37 ev8_37 => ?_)
        have hw := hw v8_37 ev8_37
        refine lv_istore (lv' := [(8, .int v8_37), (0, .ref a_p1), (1, .ref a_p2), (2, .ref a_p3), (3, .ref a_p4), (4, .ref a_p5), (5, .ref a_p6), (6, .ref a_p7), (7, .int v7)]) hx hb dL_translate_37 hl (by decide) rfl (fun ls hl => ?_)
        refine lv_aload hx hb dL_translate_39 (lv_at hl 7 rfl) ?_
        refine lv_iconst (v := 2) hx hb dL_translate_41 (by decide) ?_
        refine lv_aload hx hb dL_translate_42 (lv_at hl 7 rfl) ?_
        refine lv_iconst (v := 3) hx hb dL_translate_44 (by decide) ?_
        refine kiald F V 6 rfl hw.1 dL_translate_45 ?_
        have hw := hw.2
        refine kiast F V 6 rfl hw.1 dL_translate_46 (fun p7_46 ep7_46 H locs V => ?_)
        have hw := hw.2 p7_46 ep7_46
        have V : VW g A s.heap H locs (gAI g a_p1 p1_n p1 ++ (gAJ g a_p2 p2_n p2 ++ (gAI g a_p3 p3_n p3 ++ (gAI g a_p4 p4_n p4 ++ (gAI g a_p5 p5_n p5 ++ (gAJ g a_p6 p6_n p6 ++ (gAI g a_p7 p7_n p7_46))))))) := V
        obtain ⟨n_47, hw⟩ := hw
        exact B47  n_47 v7 v8_37 p4 p5 p6 p7_46 V (lv_sub hl [1, 2, 3, 4, 5, 6, 7, 8, 0] rfl) hw
      · have hw := hw.2 c_12
        refine lv_iload hx hb dL_translate_15 (lv_at hl 7 rfl) ?_
        refine lv_aload_n hx hb dL_translate_17 rfl (lv_at hl 3 rfl) ?_
        refine lv_iload hx hb dL_translate_18 (lv_at hl 8 rfl) ?_
        refine kiald F V 3 rfl hw.1 dL_translate_20 ?_
        have hw := hw.2
        refine lv_iadd hx hb dL_translate_21 ?_
        refine lv_topi (fun v7_22 ev7_22 => ?_)
        have hw := hw v7_22 ev7_22
        refine lv_istore (lv' := [(7, .int v7_22), (0, .ref a_p1), (1, .ref a_p2), (2, .ref a_p3), (3, .ref a_p4), (4, .ref a_p5), (5, .ref a_p6), (6, .ref a_p7), (8, .int v8)]) hx hb dL_translate_22 hl (by decide) rfl (fun ls hl => ?_)
        refine lv_iinc (v := v8 + 1) (lv' := [(8, .int (v8 + 1)), (7, .int v7_22), (0, .ref a_p1), (1, .ref a_p2), (2, .ref a_p3), (3, .ref a_p4), (4, .ref a_p5), (5, .ref a_p6), (6, .ref a_p7)]) hx hb dL_translate_24 hl (k := 8) rfl rfl (by decide) rfl (fun ls hl => ?_)
        refine lv_goto (tgt := 6) hx hb dL_translate_27 (by decide) ?_
        exact ih v7_22 (v8 + 1) p4 p5 p6 p7 V (lv_sub hl [2, 3, 4, 5, 6, 7, 8, 1, 0] rfl) hw
  refine lv_iconst (v := 0) hx hb dL_translate_0 (by decide) ?_
  refine lv_istore (lv' := [(7, .int 0), (0, .ref a_p1), (1, .ref a_p2), (2, .ref a_p3), (3, .ref a_p4), (4, .ref a_p5), (5, .ref a_p6), (6, .ref a_p7)]) hx hb dL_translate_1 hl (by decide) rfl (fun ls hl => ?_)
  refine lv_iconst (v := 0) hx hb dL_translate_3 (by decide) ?_
  refine lv_istore (lv' := [(8, .int 0), (7, .int 0), (0, .ref a_p1), (1, .ref a_p2), (2, .ref a_p3), (3, .ref a_p4), (4, .ref a_p5), (5, .ref a_p6), (6, .ref a_p7)]) hx hb dL_translate_4 hl (by decide) rfl (fun ls hl => ?_)
  obtain ⟨n_6, hw⟩ := hw
  exact B6  n_6 0 0 p4 p5 p6 p7 V (lv_sub hl [2, 3, 4, 5, 6, 7, 8, 1, 0] rfl) hw
theorem hdL_has : yL_has.cls ≠ "java/lang/invoke/MethodHandle" ∧ yL_has.cls ≠ "java/lang/invoke/VarHandle" ∧ (parseMethodDescriptor yL_has.desc).map (fun d => d.parameters.length) = some 4 := by decide +kernel
set_option maxHeartbeats 4000000 in
set_option maxRecDepth 100000 in
theorem kL_has (l : Launch) (g : kT) (a_p4 : Nat) (p4_n : Nat) (p4 : Nat → Int32) (p1 : Int32) (p2 : Int32) (p3 : Int32) (P : Int32 → Prop) (hw : wL_has p4_n p4 p1 p2 p3 P) : Ki0 l g yL_has wsL_has 0 0 0 0 [.int p1, .int p2, .int p3, .ref a_p4] (gAI g a_p4 p4_n p4) P (gAI g a_p4 p4_n p4) := by
  refine Ki0.mk (cc := cL_has) (nL := 5) (ty := .boolean) (by decide +kernel) rfl (Nat.le_of_ble_eq_true rfl) ?_
  intro p e s m below meth c A Q ls F hl V ret
  have hx := F.x
  have hb := F.b
  have hl : lv_has ls 5 [(0, .int p1), (1, .int p2), (2, .int p3), (3, .ref a_p4)] := hl
  have B20 :  ∀ (n : Nat), ∀ {H : Heap} {locs : List Loc} {ls : Array Slot} (v4 : Int32) (V : VW g A s.heap H locs (gAI g a_p4 p4_n p4)) (hl : lv_has ls 5 [(0, .int p1), (1, .int p2), (2, .int p3), (3, .ref a_p4), (4, .int v4)]) (hw : wL_has_20 p4_n p4 p1 p2 p3 P n v4), W p l e (kR 0 0 0 0) s m ([.int p1, .int p2, .int p3, .ref a_p4] : List Value).toArray below meth c H locs 0 0 Q (F0 m 20 ls []) := by
    intro n
    induction n with
    | zero => intro _ _ _ _ V hl hw; exact hw.elim
    | succ n ih =>
      intro H locs ls v4 V hl hw
      refine lv_iload hx hb dL_has_20 (lv_at hl 4 rfl) ?_
      refine lv_aload_n hx hb dL_has_22 rfl (lv_at hl 3 rfl) ?_
      refine lv_iconst (v := 5) hx hb dL_has_23 (by decide) ?_
      refine lv_iload_n hx hb dL_has_24 rfl (lv_at hl 2 rfl) ?_
      refine lv_imul hx hb dL_has_25 ?_
      refine kiald F V 0 rfl hw.1 dL_has_26 ?_
      have hw := hw.2
      refine lv_icmp_ge (tgt := 63) hx hb dL_has_27 (by decide) (fun c_27 => ?_) (fun c_27 => ?_)
      · have hw := hw.1 c_27
        refine lv_iconst (v := 1) hx hb dL_has_63 (by decide) ?_
        exact ret _ _ _ _ _ rfl dL_has_64 V hw
      · have hw := hw.2 c_27
        refine lv_aload_n hx hb dL_has_30 rfl (lv_at hl 3 rfl) ?_
        refine lv_iconst (v := 5) hx hb dL_has_31 (by decide) ?_
        refine lv_iload_n hx hb dL_has_32 rfl (lv_at hl 0 rfl) ?_
        refine lv_imul hx hb dL_has_33 ?_
        refine lv_iconst (v := 1) hx hb dL_has_34 (by decide) ?_
        refine lv_iadd hx hb dL_has_35 ?_
        refine lv_iload_n hx hb dL_has_36 rfl (lv_at hl 1 rfl) ?_
        refine lv_iadd hx hb dL_has_37 ?_
        refine lv_iload hx hb dL_has_38 (lv_at hl 4 rfl) ?_
        refine lv_iadd hx hb dL_has_40 ?_
        refine kiald F V 0 rfl hw.1 dL_has_41 ?_
        have hw := hw.2
        refine lv_aload_n hx hb dL_has_42 rfl (lv_at hl 3 rfl) ?_
        refine lv_iconst (v := 5) hx hb dL_has_43 (by decide) ?_
        refine lv_iload_n hx hb dL_has_44 rfl (lv_at hl 2 rfl) ?_
        refine lv_imul hx hb dL_has_45 ?_
        refine lv_iconst (v := 1) hx hb dL_has_46 (by decide) ?_
        refine lv_iadd hx hb dL_has_47 ?_
        refine lv_iload hx hb dL_has_48 (lv_at hl 4 rfl) ?_
        refine lv_iadd hx hb dL_has_50 ?_
        refine kiald F V 0 rfl hw.1 dL_has_51 ?_
        have hw := hw.2
        refine lv_icmp_eq (tgt := 57) hx hb dL_has_52 (by decide) (fun c_52 => ?_) (fun c_52 => ?_)
        · have hw := hw.1 c_52
          refine lv_iinc (v := v4 + 1) (lv' := [(4, .int (v4 + 1)), (0, .int p1), (1, .int p2), (2, .int p3), (3, .ref a_p4)]) hx hb dL_has_57 hl (k := 4) rfl rfl (by decide) rfl (fun ls hl => ?_)
          refine lv_goto (tgt := 20) hx hb dL_has_60 (by decide) ?_
          exact ih (v4 + 1) V (lv_sub hl [1, 2, 3, 4, 0] rfl) hw
        · have hw := hw.2 c_52
          refine lv_iconst (v := 0) hx hb dL_has_55 (by decide) ?_
          exact ret _ _ _ _ _ rfl dL_has_56 V hw
  refine lv_iload_n hx hb dL_has_0 rfl (lv_at hl 1 rfl) ?_
  refine lv_aload_n hx hb dL_has_1 rfl (lv_at hl 3 rfl) ?_
  refine lv_iconst (v := 5) hx hb dL_has_2 (by decide) ?_
  refine lv_iload_n hx hb dL_has_3 rfl (lv_at hl 2 rfl) ?_
  refine lv_imul hx hb dL_has_4 ?_
  refine kiald F V 0 rfl hw.1 dL_has_5 ?_
  have hw := hw.2
  refine lv_iadd hx hb dL_has_6 ?_
  refine lv_aload_n hx hb dL_has_7 rfl (lv_at hl 3 rfl) ?_
  refine lv_iconst (v := 5) hx hb dL_has_8 (by decide) ?_
  refine lv_iload_n hx hb dL_has_9 rfl (lv_at hl 0 rfl) ?_
  refine lv_imul hx hb dL_has_10 ?_
  refine kiald F V 0 rfl hw.1 dL_has_11 ?_
  have hw := hw.2
  refine lv_icmp_le (tgt := 17) hx hb dL_has_12 (by decide) (fun c_12 => ?_) (fun c_12 => ?_)
  · have hw := hw.1 c_12
    refine lv_iconst (v := 0) hx hb dL_has_17 (by decide) ?_
    refine lv_istore (lv' := [(4, .int 0), (0, .int p1), (1, .int p2), (2, .int p3), (3, .ref a_p4)]) hx hb dL_has_18 hl (by decide) rfl (fun ls hl => ?_)
    obtain ⟨n_20, hw⟩ := hw
    exact B20  n_20 0 V (lv_sub hl [1, 2, 3, 4, 0] rfl) hw
  · have hw := hw.2 c_12
    refine lv_iconst (v := 0) hx hb dL_has_15 (by decide) ?_
    exact ret _ _ _ _ _ rfl dL_has_16 V hw
