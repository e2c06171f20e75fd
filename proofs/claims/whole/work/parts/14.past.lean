def B_X5_countedFrom_15 (V : Vt) (o : Nat) (x1 : Int) (x2 : Int) (x3 : Int) (w0 : Int) (S : Me) (Q : Int → Me → Prop) : Prop := ((x1 = 0 → ((w0 = 0 → Q (-1000) S) ∧ (¬ w0 = 0 → (0 ≤ x3 ∧ x3 < 4) ∧ Q (S.1 (o + 1) (Int.toNat x3)) S))) ∧ (x1 = 1 → ((¬ x2 = 1 → Q (-1000) S) ∧ (x2 = 1 → (0 ≤ x3 ∧ x3 < 4) ∧ Q (S.1 (o + 1) (Int.toNat x3)) S))) ∧ (x1 = 2 → ((¬ x2 = 0 → Q (-1000) S) ∧ (x2 = 0 → (0 ≤ x3 ∧ x3 < 4) ∧ Q (S.1 (o + 3) (Int.toNat x3)) S))) ∧ (x1 = 3 → ((¬ x2 = 1 → Q (-1000) S) ∧ (x2 = 1 → (0 ≤ x3 ∧ x3 < 4) ∧ Q (S.1 (o + 4) (Int.toNat x3)) S))) ∧ (x1 = 4 → ((¬ x2 = 1 → Q (-1000) S) ∧ (x2 = 1 → (0 ≤ x3 ∧ x3 < 4) ∧ Q (S.1 (o + 5) (Int.toNat x3)) S))) ∧ (x1 = 5 → ((w0 = 0 → Q (-1000) S) ∧ (¬ w0 = 0 → (0 ≤ (Int.tdiv x3 2) ∧ (Int.tdiv x3 2) < 2) ∧ Q (S.1 (o + 6) (Int.toNat (Int.tdiv x3 2))) S))) ∧ (x1 = 6 → ((w0 = 0 → Q (-1000) S) ∧ (¬ w0 = 0 → (rng (1 - (Int.tdiv x3 2))) ∧ (0 ≤ (1 - (Int.tdiv x3 2)) ∧ (1 - (Int.tdiv x3 2)) < 2) ∧ Q (S.1 (o + 6) (Int.toNat (1 - (Int.tdiv x3 2)))) S))) ∧ (x1 = 7 → ((¬ x2 = 3 → Q (-1000) S) ∧ (x2 = 3 → Q (S.1 o 9) S))) ∧ (x1 = 8 → ((¬ x2 = 2 → Q (-1000) S) ∧ (x2 = 2 → Q (S.1 o 10) S))) ∧ (x1 = 9 → ((¬ x2 = 0 → Q (-1000) S) ∧ (x2 = 0 → (0 ≤ x3 ∧ x3 < 4) ∧ Q (S.1 (o + 2) (Int.toNat x3)) S))) ∧ (x1 = 10 → ((¬ x2 = 0 → Q (-1000) S) ∧ (x2 = 0 → (0 ≤ (Int.tmod (S.1 o 7) 4) ∧ (Int.tmod (S.1 o 7) 4) < 4) ∧ Q (S.1 (o + 7) (Int.toNat (Int.tmod (S.1 o 7) 4))) S))) ∧ (x1 = 11 → Q (S.1 o 11) S) ∧ (x1 = 12 → ((¬ x2 = 4 → Q (-1000) S) ∧ (x2 = 4 → Q (S.1 o 8) S))) ∧ ((x1 < 0 ∨ 12 < x1) → Q (-1000) S))
def B_X5_countedFrom_10 (V : Vt) (o : Nat) (x1 : Int) (x2 : Int) (x3 : Int) (S : Me) (Q : Int → Me → Prop) : Prop := B_X5_countedFrom_15 V o x1 x2 x3 1 S Q
def PT_X5_countedFrom (V : Vt) (o : Nat) (x1 : Int) (x2 : Int) (x3 : Int) (S : Me) (Q : Int → Me → Prop) : Prop := ((x2 = 2 → B_X5_countedFrom_10 V o x1 x2 x3 S Q) ∧ (¬ x2 = 2 → ((¬ x2 = 3 → B_X5_countedFrom_15 V o x1 x2 x3 0 S Q) ∧ (x2 = 3 → B_X5_countedFrom_10 V o x1 x2 x3 S Q))))
theorem hd_X5_countedFrom : yX5_countedFrom.cls ≠ "java/lang/invoke/MethodHandle" ∧ yX5_countedFrom.cls ≠ "java/lang/invoke/VarHandle" ∧ (parseMethodDescriptor yX5_countedFrom.desc).map (fun d => d.parameters.length) = some 3 := by decide +kernel
set_option maxHeartbeats 4000000 in
set_option maxRecDepth 100000 in
theorem c_X5_countedFrom (l : Launch) (D : va_G) (cy : ClassId × ClassId × ClassId × ClassId) (ad : Nat → Nat) {V : Vt} {S : Me} {o : Nat} {x1 : Int} {x2 : Int} {x3 : Int} (hV : fX5 V o) (rx1 : rng x1) (rx2 : rng x2) (rx3 : rng x3) {Q : Int → Me → Prop} (h : PT_X5_countedFrom V o x1 x2 x3 S Q) : KM l D cy yX5_countedFrom cX5_countedFrom 5 (Option.some Jvm.ClassFile.FieldType.int) 0 0 ad V S [.inr (some o), .inl x1, .inl x2, .inl x3] (qI Q) := by
  refine KM.of (by decide) rfl (Nat.le_of_ble_eq_true rfl) (own := RX5) (fun p e s m args below meth c A ls H locs eA C hret hml hmn hl G => ?_)
  have hl : lo ad ls [some (.inr (some o)), some (.inl x1), some (.inl x2), some (.inl x3), none] := hl
  have b15 : ∀ (w0 : Int) (S : Me) (H : Heap) (locs : List Loc) (ls : Array Slot), rng w0 → lo ad ls [some (.inr (some o)), some (.inl x1), some (.inl x2), some (.inl x3), none] → Gy D cy A s.heap ad V S H locs → B_X5_countedFrom_15 V o x1 x2 x3 w0 S Q → W p l e (rmx 0 0) s m args below meth c H locs 0 0 (qm below D cy ad V A args s (qI Q)) (F0 m 15 ls [vI w0]) := by
    intro w0 S H locs ls rw0 hl G h
    unfold B_X5_countedFrom_15 at h
    refine gx_istore C hl dX5_countedFrom_15 (Nat.le_of_ble_eq_true rfl) (PL' := [some (.inr (some o)), some (.inl x1), some (.inl x2), some (.inl x3), some (.inl w0)]) rfl (fun ls hl => ?_)
    refine gx_iload_n C hl dX5_countedFrom_17 rfl ?_
    by_cases c4 : x1 = 0
    · refine gx_tableIn (tgt := 84) C rx1 dX5_countedFrom_18 0 c4 (by decide) (by decide) rfl (by decide) ?_
      have h := h.1 c4
      refine gx_iload C hl dX5_countedFrom_84 rfl ?_
      refine gx_if_eq (tgt := 98) C rw0 dX5_countedFrom_86 (by decide) (fun c1 => ?_) (fun c1 => ?_)
      · have h := h.1 c1
        refine gx_sipush C dX5_countedFrom_98 (by decide) ?_
        exact gx_iret C G hret (show rng (-1000) by decide) h dX5_countedFrom_101
      · have h := h.2 c1
        refine gx_aload_n C hl dX5_countedFrom_89 rfl ?_
        refine gx_getF C G rfl (fX5_o hV) (fo4_0 (fX5_c hV)) (fX5_opens hV) uw_44 (fun _ h9 => h9) dX5_countedFrom_90 ?_
        refine gx_iload_n C hl dX5_countedFrom_93 rfl ?_
        obtain ⟨h2, h⟩ := h
        refine gx_iald C G rfl (fX5_opens_l hV) (fX5_opens_t hV) rx3 h2.1 (ixl (fX5_opens_n hV) h2.2) dX5_countedFrom_94 ?_
        have r3 := G.r (o + 1) (Int.toNat x3)
        refine gx_goto (tgt := 101) C dX5_countedFrom_95 (by decide) ?_
        exact gx_iret C G hret r3 h dX5_countedFrom_101
    · by_cases c8 : x1 = 1
      · refine gx_tableIn (tgt := 102) C rx1 dX5_countedFrom_18 1 c8 (by decide) (by decide) rfl (by decide) ?_
        have h := h.2.1 c8
        refine gx_iload_n C hl dX5_countedFrom_102 rfl ?_
        refine gx_iconst C dX5_countedFrom_103 ?_
        refine gx_icmp_ne (tgt := 116) C rx2 (show rng 1 by decide) dX5_countedFrom_104 (by decide) (fun c5 => ?_) (fun c5 => ?_)
        · have h := h.1 c5
          refine gx_sipush C dX5_countedFrom_116 (by decide) ?_
          exact gx_iret C G hret (show rng (-1000) by decide) h dX5_countedFrom_119
        · have h := h.2 c5
          refine gx_aload_n C hl dX5_countedFrom_107 rfl ?_
          refine gx_getF C G rfl (fX5_o hV) (fo4_0 (fX5_c hV)) (fX5_opens hV) uw_44 (fun _ h9 => h9) dX5_countedFrom_108 ?_
          refine gx_iload_n C hl dX5_countedFrom_111 rfl ?_
          obtain ⟨h6, h⟩ := h
          refine gx_iald C G rfl (fX5_opens_l hV) (fX5_opens_t hV) rx3 h6.1 (ixl (fX5_opens_n hV) h6.2) dX5_countedFrom_112 ?_
          have r7 := G.r (o + 1) (Int.toNat x3)
          refine gx_goto (tgt := 119) C dX5_countedFrom_113 (by decide) ?_
          exact gx_iret C G hret r7 h dX5_countedFrom_119
      · by_cases c12 : x1 = 2
        · refine gx_tableIn (tgt := 120) C rx1 dX5_countedFrom_18 2 c12 (by decide) (by decide) rfl (by decide) ?_
          have h := h.2.2.1 c12
          refine gx_iload_n C hl dX5_countedFrom_120 rfl ?_
          refine gx_if_ne (tgt := 133) C rx2 dX5_countedFrom_121 (by decide) (fun c9 => ?_) (fun c9 => ?_)
          · have h := h.1 c9
            refine gx_sipush C dX5_countedFrom_133 (by decide) ?_
            exact gx_iret C G hret (show rng (-1000) by decide) h dX5_countedFrom_136
          · have h := h.2 c9
            refine gx_aload_n C hl dX5_countedFrom_124 rfl ?_
            refine gx_getF C G rfl (fX5_o hV) (fo4_2 (fX5_c hV)) (fX5_shuts hV) uw_46 (fun _ h9 => h9) dX5_countedFrom_125 ?_
            refine gx_iload_n C hl dX5_countedFrom_128 rfl ?_
            obtain ⟨h10, h⟩ := h
            refine gx_iald C G rfl (fX5_shuts_l hV) (fX5_shuts_t hV) rx3 h10.1 (ixl (fX5_shuts_n hV) h10.2) dX5_countedFrom_129 ?_
            have r11 := G.r (o + 3) (Int.toNat x3)
            refine gx_goto (tgt := 136) C dX5_countedFrom_130 (by decide) ?_
            exact gx_iret C G hret r11 h dX5_countedFrom_136
        · by_cases c16 : x1 = 3
          · refine gx_tableIn (tgt := 137) C rx1 dX5_countedFrom_18 3 c16 (by decide) (by decide) rfl (by decide) ?_
            have h := h.2.2.2.1 c16
            refine gx_iload_n C hl dX5_countedFrom_137 rfl ?_
            refine gx_iconst C dX5_countedFrom_138 ?_
            refine gx_icmp_ne (tgt := 151) C rx2 (show rng 1 by decide) dX5_countedFrom_139 (by decide) (fun c13 => ?_) (fun c13 => ?_)
            · have h := h.1 c13
              refine gx_sipush C dX5_countedFrom_151 (by decide) ?_
              exact gx_iret C G hret (show rng (-1000) by decide) h dX5_countedFrom_154
            · have h := h.2 c13
              refine gx_aload_n C hl dX5_countedFrom_142 rfl ?_
              refine gx_getF C G rfl (fX5_o hV) (fo4_3 (fX5_c hV)) (fX5_reads hV) uw_47 (fun _ h9 => h9) dX5_countedFrom_143 ?_
              refine gx_iload_n C hl dX5_countedFrom_146 rfl ?_
              obtain ⟨h14, h⟩ := h
              refine gx_iald C G rfl (fX5_reads_l hV) (fX5_reads_t hV) rx3 h14.1 (ixl (fX5_reads_n hV) h14.2) dX5_countedFrom_147 ?_
              have r15 := G.r (o + 4) (Int.toNat x3)
              refine gx_goto (tgt := 154) C dX5_countedFrom_148 (by decide) ?_
              exact gx_iret C G hret r15 h dX5_countedFrom_154
          · by_cases c20 : x1 = 4
            · refine gx_tableIn (tgt := 155) C rx1 dX5_countedFrom_18 4 c20 (by decide) (by decide) rfl (by decide) ?_
              have h := h.2.2.2.2.1 c20
              refine gx_iload_n C hl dX5_countedFrom_155 rfl ?_
              refine gx_iconst C dX5_countedFrom_156 ?_
              refine gx_icmp_ne (tgt := 169) C rx2 (show rng 1 by decide) dX5_countedFrom_157 (by decide) (fun c17 => ?_) (fun c17 => ?_)
              · have h := h.1 c17
                refine gx_sipush C dX5_countedFrom_169 (by decide) ?_
                exact gx_iret C G hret (show rng (-1000) by decide) h dX5_countedFrom_172
              · have h := h.2 c17
                refine gx_aload_n C hl dX5_countedFrom_160 rfl ?_
                refine gx_getF C G rfl (fX5_o hV) (fo4_4 (fX5_c hV)) (fX5_writes hV) uw_48 (fun _ h9 => h9) dX5_countedFrom_161 ?_
                refine gx_iload_n C hl dX5_countedFrom_164 rfl ?_
                obtain ⟨h18, h⟩ := h
                refine gx_iald C G rfl (fX5_writes_l hV) (fX5_writes_t hV) rx3 h18.1 (ixl (fX5_writes_n hV) h18.2) dX5_countedFrom_165 ?_
                have r19 := G.r (o + 5) (Int.toNat x3)
                refine gx_goto (tgt := 172) C dX5_countedFrom_166 (by decide) ?_
                exact gx_iret C G hret r19 h dX5_countedFrom_172
            · by_cases c24 : x1 = 5
              · refine gx_tableIn (tgt := 173) C rx1 dX5_countedFrom_18 5 c24 (by decide) (by decide) rfl (by decide) ?_
                have h := h.2.2.2.2.2.1 c24
                refine gx_iload C hl dX5_countedFrom_173 rfl ?_
                refine gx_if_eq (tgt := 189) C rw0 dX5_countedFrom_175 (by decide) (fun c21 => ?_) (fun c21 => ?_)
                · have h := h.1 c21
                  refine gx_sipush C dX5_countedFrom_189 (by decide) ?_
                  exact gx_iret C G hret (show rng (-1000) by decide) h dX5_countedFrom_192
                · have h := h.2 c21
                  refine gx_aload_n C hl dX5_countedFrom_178 rfl ?_
                  refine gx_getF C G rfl (fX5_o hV) (fo4_5 (fX5_c hV)) (fX5_columnsOfGroups hV) uw_49 (fun _ h9 => h9) dX5_countedFrom_179 ?_
                  refine gx_iload_n C hl dX5_countedFrom_182 rfl ?_
                  refine gx_iconst C dX5_countedFrom_183 ?_
                  refine gx_idiv C rx3 (show rng 2 by decide) (by decide) dX5_countedFrom_184 ?_
                  obtain ⟨h22, h⟩ := h
                  refine gx_iald C G rfl (fX5_columnsOfGroups_l hV) (fX5_columnsOfGroups_t hV) (rg_dv rx3 (by decide)) h22.1 (ixl (fX5_columnsOfGroups_n hV) h22.2) dX5_countedFrom_185 ?_
                  have r23 := G.r (o + 6) (Int.toNat (Int.tdiv x3 2))
                  refine gx_goto (tgt := 192) C dX5_countedFrom_186 (by decide) ?_
                  exact gx_iret C G hret r23 h dX5_countedFrom_192
              · by_cases c29 : x1 = 6
                · refine gx_tableIn (tgt := 193) C rx1 dX5_countedFrom_18 6 c29 (by decide) (by decide) rfl (by decide) ?_
                  have h := h.2.2.2.2.2.2.1 c29
                  refine gx_iload C hl dX5_countedFrom_193 rfl ?_
                  refine gx_if_eq (tgt := 211) C rw0 dX5_countedFrom_195 (by decide) (fun c25 => ?_) (fun c25 => ?_)
                  · have h := h.1 c25
                    refine gx_sipush C dX5_countedFrom_211 (by decide) ?_
                    exact gx_iret C G hret (show rng (-1000) by decide) h dX5_countedFrom_214
                  · have h := h.2 c25
                    refine gx_aload_n C hl dX5_countedFrom_198 rfl ?_
                    refine gx_getF C G rfl (fX5_o hV) (fo4_5 (fX5_c hV)) (fX5_columnsOfGroups hV) uw_49 (fun _ h9 => h9) dX5_countedFrom_199 ?_
                    refine gx_iconst C dX5_countedFrom_202 ?_
                    refine gx_iload_n C hl dX5_countedFrom_203 rfl ?_
                    refine gx_iconst C dX5_countedFrom_204 ?_
                    refine gx_idiv C rx3 (show rng 2 by decide) (by decide) dX5_countedFrom_205 ?_
                    obtain ⟨h26, h⟩ := h
                    refine gx_isub C dX5_countedFrom_206 ?_
                    obtain ⟨h27, h⟩ := h
                    refine gx_iald C G rfl (fX5_columnsOfGroups_l hV) (fX5_columnsOfGroups_t hV) h26 h27.1 (ixl (fX5_columnsOfGroups_n hV) h27.2) dX5_countedFrom_207 ?_
                    have r28 := G.r (o + 6) (Int.toNat (1 - (Int.tdiv x3 2)))
                    refine gx_goto (tgt := 214) C dX5_countedFrom_208 (by decide) ?_
                    exact gx_iret C G hret r28 h dX5_countedFrom_214
                · by_cases c32 : x1 = 7
                  · refine gx_tableIn (tgt := 215) C rx1 dX5_countedFrom_18 7 c32 (by decide) (by decide) rfl (by decide) ?_
                    have h := h.2.2.2.2.2.2.2.1 c32
                    refine gx_iload_n C hl dX5_countedFrom_215 rfl ?_
                    refine gx_iconst C dX5_countedFrom_216 ?_
                    refine gx_icmp_ne (tgt := 227) C rx2 (show rng 3 by decide) dX5_countedFrom_217 (by decide) (fun c30 => ?_) (fun c30 => ?_)
                    · have h := h.1 c30
                      refine gx_sipush C dX5_countedFrom_227 (by decide) ?_
                      exact gx_iret C G hret (show rng (-1000) by decide) h dX5_countedFrom_230
                    · have h := h.2 c30
                      refine gx_aload_n C hl dX5_countedFrom_220 rfl ?_
                      refine gx_getI C G rfl (fX5_o hV) (fo4_9 (fX5_c hV)) uw_54 (fun _ h9 => h9) dX5_countedFrom_221 ?_
                      have r31 := G.r o 9
                      refine gx_goto (tgt := 230) C dX5_countedFrom_224 (by decide) ?_
                      exact gx_iret C G hret r31 h dX5_countedFrom_230
                  · by_cases c35 : x1 = 8
                    · refine gx_tableIn (tgt := 231) C rx1 dX5_countedFrom_18 8 c35 (by decide) (by decide) rfl (by decide) ?_
                      have h := h.2.2.2.2.2.2.2.2.1 c35
                      refine gx_iload_n C hl dX5_countedFrom_231 rfl ?_
                      refine gx_iconst C dX5_countedFrom_232 ?_
                      refine gx_icmp_ne (tgt := 243) C rx2 (show rng 2 by decide) dX5_countedFrom_233 (by decide) (fun c33 => ?_) (fun c33 => ?_)
                      · have h := h.1 c33
                        refine gx_sipush C dX5_countedFrom_243 (by decide) ?_
                        exact gx_iret C G hret (show rng (-1000) by decide) h dX5_countedFrom_246
                      · have h := h.2 c33
                        refine gx_aload_n C hl dX5_countedFrom_236 rfl ?_
                        refine gx_getI C G rfl (fX5_o hV) (fo4_10 (fX5_c hV)) uw_55 (fun _ h9 => h9) dX5_countedFrom_237 ?_
                        have r34 := G.r o 10
                        refine gx_goto (tgt := 246) C dX5_countedFrom_240 (by decide) ?_
                        exact gx_iret C G hret r34 h dX5_countedFrom_246
                    · by_cases c39 : x1 = 9
                      · refine gx_tableIn (tgt := 247) C rx1 dX5_countedFrom_18 9 c39 (by decide) (by decide) rfl (by decide) ?_
                        have h := h.2.2.2.2.2.2.2.2.2.1 c39
                        refine gx_iload_n C hl dX5_countedFrom_247 rfl ?_
                        refine gx_if_ne (tgt := 260) C rx2 dX5_countedFrom_248 (by decide) (fun c36 => ?_) (fun c36 => ?_)
                        · have h := h.1 c36
                          refine gx_sipush C dX5_countedFrom_260 (by decide) ?_
                          exact gx_iret C G hret (show rng (-1000) by decide) h dX5_countedFrom_263
                        · have h := h.2 c36
                          refine gx_aload_n C hl dX5_countedFrom_251 rfl ?_
                          refine gx_getF C G rfl (fX5_o hV) (fo4_1 (fX5_c hV)) (fX5_opensBeside hV) uw_45 (fun _ h9 => h9) dX5_countedFrom_252 ?_
                          refine gx_iload_n C hl dX5_countedFrom_255 rfl ?_
                          obtain ⟨h37, h⟩ := h
                          refine gx_iald C G rfl (fX5_opensBeside_l hV) (fX5_opensBeside_t hV) rx3 h37.1 (ixl (fX5_opensBeside_n hV) h37.2) dX5_countedFrom_256 ?_
                          have r38 := G.r (o + 2) (Int.toNat x3)
                          refine gx_goto (tgt := 263) C dX5_countedFrom_257 (by decide) ?_
                          exact gx_iret C G hret r38 h dX5_countedFrom_263
                      · by_cases c44 : x1 = 10
                        · refine gx_tableIn (tgt := 264) C rx1 dX5_countedFrom_18 10 c44 (by decide) (by decide) rfl (by decide) ?_
                          have h := h.2.2.2.2.2.2.2.2.2.2.1 c44
                          refine gx_iload_n C hl dX5_countedFrom_264 rfl ?_
                          refine gx_if_ne (tgt := 282) C rx2 dX5_countedFrom_265 (by decide) (fun c40 => ?_) (fun c40 => ?_)
                          · have h := h.1 c40
                            refine gx_sipush C dX5_countedFrom_282 (by decide) ?_
                            exact gx_iret C G hret (show rng (-1000) by decide) h dX5_countedFrom_285
                          · have h := h.2 c40
                            refine gx_aload_n C hl dX5_countedFrom_268 rfl ?_
                            refine gx_getF C G rfl (fX5_o hV) (fo4_6 (fX5_c hV)) (fX5_fourOpens hV) uw_50 (fun _ h9 => h9) dX5_countedFrom_269 ?_
                            refine gx_aload_n C hl dX5_countedFrom_272 rfl ?_
                            refine gx_getI C G rfl (fX5_o hV) (fo4_7 (fX5_c hV)) uw_51 (fun _ h9 => h9) dX5_countedFrom_273 ?_
                            have r41 := G.r o 7
                            refine gx_iconst C dX5_countedFrom_276 ?_
                            refine gx_irem C r41 (show rng 4 by decide) (by decide) dX5_countedFrom_277 ?_
                            obtain ⟨h42, h⟩ := h
                            refine gx_iald C G rfl (fX5_fourOpens_l hV) (fX5_fourOpens_t hV) (rg_md r41) h42.1 (ixl (fX5_fourOpens_n hV) h42.2) dX5_countedFrom_278 ?_
                            have r43 := G.r (o + 7) (Int.toNat (Int.tmod (S.1 o 7) 4))
                            refine gx_goto (tgt := 285) C dX5_countedFrom_279 (by decide) ?_
                            exact gx_iret C G hret r43 h dX5_countedFrom_285
                        · by_cases c46 : x1 = 11
                          · refine gx_tableIn (tgt := 286) C rx1 dX5_countedFrom_18 11 c46 (by decide) (by decide) rfl (by decide) ?_
                            have h := h.2.2.2.2.2.2.2.2.2.2.2.1 c46
                            refine gx_aload_n C hl dX5_countedFrom_286 rfl ?_
                            refine gx_getI C G rfl (fX5_o hV) (fo4_11 (fX5_c hV)) uw_56 (fun _ h9 => h9) dX5_countedFrom_287 ?_
                            have r45 := G.r o 11
                            exact gx_iret C G hret r45 h dX5_countedFrom_290
                          · by_cases c49 : x1 = 12
                            · refine gx_tableIn (tgt := 291) C rx1 dX5_countedFrom_18 12 c49 (by decide) (by decide) rfl (by decide) ?_
                              have h := h.2.2.2.2.2.2.2.2.2.2.2.2.1 c49
                              refine gx_iload_n C hl dX5_countedFrom_291 rfl ?_
                              refine gx_iconst C dX5_countedFrom_292 ?_
                              refine gx_icmp_ne (tgt := 303) C rx2 (show rng 4 by decide) dX5_countedFrom_293 (by decide) (fun c47 => ?_) (fun c47 => ?_)
                              · have h := h.1 c47
                                refine gx_sipush C dX5_countedFrom_303 (by decide) ?_
                                exact gx_iret C G hret (show rng (-1000) by decide) h dX5_countedFrom_306
                              · have h := h.2 c47
                                refine gx_aload_n C hl dX5_countedFrom_296 rfl ?_
                                refine gx_getI C G rfl (fX5_o hV) (fo4_8 (fX5_c hV)) uw_53 (fun _ h9 => h9) dX5_countedFrom_297 ?_
                                have r48 := G.r o 8
                                refine gx_goto (tgt := 306) C dX5_countedFrom_300 (by decide) ?_
                                exact gx_iret C G hret r48 h dX5_countedFrom_306
                            · have c50 : x1 < 0 ∨ 12 < x1 := by omega
                              refine gx_tableOut (tgt := 307) C rx1 dX5_countedFrom_18 c50 (by decide) ?_
                              have h := h.2.2.2.2.2.2.2.2.2.2.2.2.2 c50
                              refine gx_sipush C dX5_countedFrom_307 (by decide) ?_
                              exact gx_iret C G hret (show rng (-1000) by decide) h dX5_countedFrom_310
  have b10 : ∀ (S : Me) (H : Heap) (locs : List Loc) (ls : Array Slot), lo ad ls [some (.inr (some o)), some (.inl x1), some (.inl x2), some (.inl x3), none] → Gy D cy A s.heap ad V S H locs → B_X5_countedFrom_10 V o x1 x2 x3 S Q → W p l e (rmx 0 0) s m args below meth c H locs 0 0 (qm below D cy ad V A args s (qI Q)) (F0 m 10 ls []) := by
    intro S H locs ls hl G h
    unfold B_X5_countedFrom_10 at h
    refine gx_iconst C dX5_countedFrom_10 ?_
    refine gx_goto (tgt := 15) C dX5_countedFrom_11 (by decide) ?_
    exact b15 1 S H locs ls (show rng 1 by decide) hl G h
  clear eA
  unfold PT_X5_countedFrom at h
  refine gx_iload_n C hl dX5_countedFrom_0 rfl ?_
  refine gx_iconst C dX5_countedFrom_1 ?_
  refine gx_icmp_eq (tgt := 10) C rx2 (show rng 2 by decide) dX5_countedFrom_2 (by decide) (fun c51 => ?_) (fun c51 => ?_)
  · have h := h.1 c51
    exact b10 S H locs ls hl G h
  · have h := h.2 c51
    refine gx_iload_n C hl dX5_countedFrom_5 rfl ?_
    refine gx_iconst C dX5_countedFrom_6 ?_
    refine gx_icmp_ne (tgt := 14) C rx2 (show rng 3 by decide) dX5_countedFrom_7 (by decide) (fun c52 => ?_) (fun c52 => ?_)
    · have h := h.1 c52
      refine gx_iconst C dX5_countedFrom_14 ?_
      exact b15 0 S H locs ls (show rng 0 by decide) hl G h
    · have h := h.2 c52
      exact b10 S H locs ls hl G h
def B_X5_leastTick_6 (V : Vt) (o : Nat) (x1 : Option Nat) (x2 : Int) (x3 : Int) (Q : Int → Me → Prop) : Nat → (Int → Int → Me → Prop)
  | 0 => fun _ _ _ => False
  | n + 1 => fun y4 y5 S => ∃ z1 : Nat, x1 = some z1 ∧ V.2.1 z1 = 12 ∧ (((V.2.2.1 z1 : Int) ≤ y5 → Q y4 S) ∧ (¬ (V.2.2.1 z1 : Int) ≤ y5 → PT_X5_countedFrom V o y5 x2 x3 S (fun t5 S4 => (0 ≤ y5 ∧ y5 < (V.2.2.1 z1 : Int)) ∧ (rng (t5 + (S4.1 z1 (Int.toNat y5)))) ∧ (rng (y5 + 1)) ∧ B_X5_leastTick_6 V o x1 x2 x3 Q n (if y4 < (t5 + (S4.1 z1 (Int.toNat y5))) then (t5 + (S4.1 z1 (Int.toNat y5))) else y4) (y5 + 1) S4)))
def PT_X5_leastTick (V : Vt) (o : Nat) (x1 : Option Nat) (x2 : Int) (x3 : Int) (S : Me) (Q : Int → Me → Prop) : Prop := (∃ n9 : Nat, B_X5_leastTick_6 V o x1 x2 x3 Q n9 1 0 S)
theorem hd_X5_leastTick : yX5_leastTick.cls ≠ "java/lang/invoke/MethodHandle" ∧ yX5_leastTick.cls ≠ "java/lang/invoke/VarHandle" ∧ (parseMethodDescriptor yX5_leastTick.desc).map (fun d => d.parameters.length) = some 3 := by decide +kernel
set_option maxHeartbeats 4000000 in
set_option maxRecDepth 100000 in
theorem c_X5_leastTick (l : Launch) (D : va_G) (cy : ClassId × ClassId × ClassId × ClassId) (ad : Nat → Nat) {V : Vt} {S : Me} {o : Nat} {x1 : Option Nat} {x2 : Int} {x3 : Int} (hV : fX5 V o) (vx1 : ∀ z, x1 = some z → z < V.1) (rx2 : rng x2) (rx3 : rng x3) {Q : Int → Me → Prop} (h : PT_X5_leastTick V o x1 x2 x3 S Q) : KM l D cy yX5_leastTick cX5_leastTick 6 (Option.some Jvm.ClassFile.FieldType.int) 1 24 ad V S [.inr (some o), .inr x1, .inl x2, .inl x3] (qI Q) := by
  refine KM.of (by decide) rfl (Nat.le_of_ble_eq_true rfl) (own := RX5) (fun p e s m args below meth c A ls H locs eA C hret hml hmn hl G => ?_)
  have hl : lo ad ls [some (.inr (some o)), some (.inr x1), some (.inl x2), some (.inl x3), none, none] := hl
  have b6 : ∀ (n : Nat) (y4 : Int) (y5 : Int) (S : Me) (H : Heap) (locs : List Loc) (ls : Array Slot), rng y4 → rng y5 → lo ad ls [some (.inr (some o)), some (.inr x1), some (.inl x2), some (.inl x3), some (.inl y4), some (.inl y5)] → Gy D cy A s.heap ad V S H locs → B_X5_leastTick_6 V o x1 x2 x3 Q n y4 y5 S → W p l e (rmx 1 24) s m args below meth c H locs 0 0 (qm below D cy ad V A args s (qI Q)) (F0 m 6 ls []) := by
    intro n
    induction n with
    | zero =>
      intro y4 y5 S H locs ls ry4 ry5 hl G h
      exact absurd h id
    | succ n ih =>
      intro y4 y5 S H locs ls ry4 ry5 hl G h
      rw [B_X5_leastTick_6] at h
      refine gx_iload C hl dX5_leastTick_6 rfl ?_
      refine gx_aload_n C hl dX5_leastTick_8 rfl ?_
      obtain ⟨z1, hz1, tz1, h⟩ := h
      have lz1 := (vx1 z1 hz1)
      refine gx_alen C G hz1 lz1 tz1 dX5_leastTick_9 ?_
      have r2 := G.l z1
      refine gx_icmp_ge (tgt := 39) C ry5 r2 dX5_leastTick_10 (by decide) (fun c3 => ?_) (fun c3 => ?_)
      · have h := h.1 c3
        refine gx_iload C hl dX5_leastTick_39 rfl ?_
        exact gx_iret C G hret ry4 h dX5_leastTick_41
      · have h := h.2 c3
        refine gx_iload C hl dX5_leastTick_13 rfl ?_
        refine gx_aload_n C hl dX5_leastTick_15 rfl ?_
        refine gx_iload C hl dX5_leastTick_16 rfl ?_
        refine gx_iload_n C hl dX5_leastTick_18 rfl ?_
        refine gx_iload_n C hl dX5_leastTick_19 rfl ?_
        refine gx_callV C G hl hml (c_X5_countedFrom l D cy ad hV ry5 rx2 rx3 h) rfl (fX5_o hV) (by rw [(fX5_c hV)]; rfl) (by rw [(fX5_c hV)]; decide) rfl uw_545 uw_542 uw_544 up_8 uw_2 hd_X5_countedFrom ⟨Nat.le_of_ble_eq_true rfl, Nat.le_of_ble_eq_true rfl⟩ ⟨Nat.zero_le _, Nat.zero_le _⟩ rfl rfl (hw_le ad [.inl y4] rfl (Nat.le_of_ble_eq_true rfl)) dX5_leastTick_20 (kkI (fun t5 S4 H locs rt5 h G => ?_))
        refine gx_aload_n C hl dX5_leastTick_23 rfl ?_
        refine gx_iload C hl dX5_leastTick_24 rfl ?_
        obtain ⟨h6, h⟩ := h
        refine gx_iald C G hz1 lz1 tz1 ry5 h6.1 h6.2 dX5_leastTick_26 ?_
        have r7 := G.r z1 (Int.toNat y5)
        obtain ⟨h8, h⟩ := h
        refine gx_iadd C dX5_leastTick_27 ?_
        refine gx_max C hl hml ry4 h8 uw_546 ⟨Nat.le_of_ble_eq_true rfl, Nat.le_of_ble_eq_true rfl⟩ ⟨Nat.zero_le _, Nat.zero_le _⟩ (hw_le ad [] rfl (Nat.le_of_ble_eq_true rfl)) dX5_leastTick_28 ?_
        refine gx_istore C hl dX5_leastTick_31 (Nat.le_of_ble_eq_true rfl) (PL' := [some (.inr (some o)), some (.inr x1), some (.inl x2), some (.inl x3), some (.inl (if y4 < (t5 + (S4.1 z1 (Int.toNat y5))) then (t5 + (S4.1 z1 (Int.toNat y5))) else y4)), some (.inl y5)]) rfl (fun ls hl => ?_)
        obtain ⟨h9, h⟩ := h
        refine gx_iinc C hl dX5_leastTick_33 rfl (PL' := [some (.inr (some o)), some (.inr x1), some (.inl x2), some (.inl x3), some (.inl (if y4 < (t5 + (S4.1 z1 (Int.toNat y5))) then (t5 + (S4.1 z1 (Int.toNat y5))) else y4)), some (.inl (y5 + 1))]) rfl (fun ls hl => ?_)
        refine gx_goto (tgt := 6) C dX5_leastTick_36 (by decide) ?_
        exact ih (if y4 < (t5 + (S4.1 z1 (Int.toNat y5))) then (t5 + (S4.1 z1 (Int.toNat y5))) else y4) (y5 + 1) S4 H locs ls (rg_mx ry4 h8) h9 hl G h
  clear eA
  unfold PT_X5_leastTick at h
  refine gx_iconst C dX5_leastTick_0 ?_
  refine gx_istore C hl dX5_leastTick_1 (Nat.le_of_ble_eq_true rfl) (PL' := [some (.inr (some o)), some (.inr x1), some (.inl x2), some (.inl x3), some (.inl 1), none]) rfl (fun ls hl => ?_)
  refine gx_iconst C dX5_leastTick_3 ?_
  refine gx_istore C hl dX5_leastTick_4 (Nat.le_of_ble_eq_true rfl) (PL' := [some (.inr (some o)), some (.inr x1), some (.inl x2), some (.inl x3), some (.inl 1), some (.inl 0)]) rfl (fun ls hl => ?_)
  obtain ⟨n9, h⟩ := h
  exact b6 n9 1 0 S H locs ls (show rng 1 by decide) (show rng 0 by decide) hl G h
def B_X5_leastBroken_3 (V : Vt) (o : Nat) (x1 : Option Nat) (x2 : Int) (x3 : Int) (x4 : Int) (Q : Int → Me → Prop) : Nat → (Int → Me → Prop)
  | 0 => fun _ _ => False
  | n + 1 => fun y5 S => ∃ z1 : Nat, x1 = some z1 ∧ V.2.1 z1 = 12 ∧ (((V.2.2.1 z1 : Int) ≤ y5 → Q (-2) S) ∧ (¬ (V.2.2.1 z1 : Int) ≤ y5 → PT_X5_countedFrom V o y5 x2 x3 S (fun t5 S4 => (0 ≤ y5 ∧ y5 < (V.2.2.1 z1 : Int)) ∧ (rng (t5 + (S4.1 z1 (Int.toNat y5)))) ∧ (((t5 + (S4.1 z1 (Int.toNat y5))) ≤ x4 → (rng (y5 + 1)) ∧ B_X5_leastBroken_3 V o x1 x2 x3 x4 Q n (y5 + 1) S4) ∧ (¬ (t5 + (S4.1 z1 (Int.toNat y5))) ≤ x4 → Q y5 S4)))))
def PT_X5_leastBroken (V : Vt) (o : Nat) (x1 : Option Nat) (x2 : Int) (x3 : Int) (x4 : Int) (S : Me) (Q : Int → Me → Prop) : Prop := (∃ n9 : Nat, B_X5_leastBroken_3 V o x1 x2 x3 x4 Q n9 0 S)
theorem hd_X5_leastBroken : yX5_leastBroken.cls ≠ "java/lang/invoke/MethodHandle" ∧ yX5_leastBroken.cls ≠ "java/lang/invoke/VarHandle" ∧ (parseMethodDescriptor yX5_leastBroken.desc).map (fun d => d.parameters.length) = some 4 := by decide +kernel
set_option maxHeartbeats 4000000 in
set_option maxRecDepth 100000 in
theorem c_X5_leastBroken (l : Launch) (D : va_G) (cy : ClassId × ClassId × ClassId × ClassId) (ad : Nat → Nat) {V : Vt} {S : Me} {o : Nat} {x1 : Option Nat} {x2 : Int} {x3 : Int} {x4 : Int} (hV : fX5 V o) (vx1 : ∀ z, x1 = some z → z < V.1) (rx2 : rng x2) (rx3 : rng x3) (rx4 : rng x4) {Q : Int → Me → Prop} (h : PT_X5_leastBroken V o x1 x2 x3 x4 S Q) : KM l D cy yX5_leastBroken cX5_leastBroken 6 (Option.some Jvm.ClassFile.FieldType.int) 1 24 ad V S [.inr (some o), .inr x1, .inl x2, .inl x3, .inl x4] (qI Q) := by
  refine KM.of (by decide) rfl (Nat.le_of_ble_eq_true rfl) (own := RX5) (fun p e s m args below meth c A ls H locs eA C hret hml hmn hl G => ?_)
  have hl : lo ad ls [some (.inr (some o)), some (.inr x1), some (.inl x2), some (.inl x3), some (.inl x4), none] := hl
  have b3 : ∀ (n : Nat) (y5 : Int) (S : Me) (H : Heap) (locs : List Loc) (ls : Array Slot), rng y5 → lo ad ls [some (.inr (some o)), some (.inr x1), some (.inl x2), some (.inl x3), some (.inl x4), some (.inl y5)] → Gy D cy A s.heap ad V S H locs → B_X5_leastBroken_3 V o x1 x2 x3 x4 Q n y5 S → W p l e (rmx 1 24) s m args below meth c H locs 0 0 (qm below D cy ad V A args s (qI Q)) (F0 m 3 ls []) := by
    intro n
    induction n with
    | zero =>
      intro y5 S H locs ls ry5 hl G h
      exact absurd h id
    | succ n ih =>
      intro y5 S H locs ls ry5 hl G h
      rw [B_X5_leastBroken_3] at h
      refine gx_iload C hl dX5_leastBroken_3 rfl ?_
      refine gx_aload_n C hl dX5_leastBroken_5 rfl ?_
      obtain ⟨z1, hz1, tz1, h⟩ := h
      have lz1 := (vx1 z1 hz1)
      refine gx_alen C G hz1 lz1 tz1 dX5_leastBroken_6 ?_
      have r2 := G.l z1
      refine gx_icmp_ge (tgt := 37) C ry5 r2 dX5_leastBroken_7 (by decide) (fun c3 => ?_) (fun c3 => ?_)
      · have h := h.1 c3
        refine gx_bipush C dX5_leastBroken_37 (by decide) ?_
        exact gx_iret C G hret (show rng (-2) by decide) h dX5_leastBroken_39
      · have h := h.2 c3
        refine gx_iload C hl dX5_leastBroken_10 rfl ?_
        refine gx_aload_n C hl dX5_leastBroken_12 rfl ?_
        refine gx_iload C hl dX5_leastBroken_13 rfl ?_
        refine gx_iload_n C hl dX5_leastBroken_15 rfl ?_
        refine gx_iload_n C hl dX5_leastBroken_16 rfl ?_
        refine gx_callV C G hl hml (c_X5_countedFrom l D cy ad hV ry5 rx2 rx3 h) rfl (fX5_o hV) (by rw [(fX5_c hV)]; rfl) (by rw [(fX5_c hV)]; decide) rfl uw_545 uw_542 uw_544 up_8 uw_2 hd_X5_countedFrom ⟨Nat.le_of_ble_eq_true rfl, Nat.le_of_ble_eq_true rfl⟩ ⟨Nat.zero_le _, Nat.zero_le _⟩ rfl rfl (hw_le ad [.inl x4] rfl (Nat.le_of_ble_eq_true rfl)) dX5_leastBroken_17 (kkI (fun t5 S4 H locs rt5 h G => ?_))
        refine gx_aload_n C hl dX5_leastBroken_20 rfl ?_
        refine gx_iload C hl dX5_leastBroken_21 rfl ?_
        obtain ⟨h6, h⟩ := h
        refine gx_iald C G hz1 lz1 tz1 ry5 h6.1 h6.2 dX5_leastBroken_23 ?_
        have r7 := G.r z1 (Int.toNat y5)
        obtain ⟨h8, h⟩ := h
        refine gx_iadd C dX5_leastBroken_24 ?_
        refine gx_icmp_ge (tgt := 31) C rx4 h8 dX5_leastBroken_25 (by decide) (fun c9 => ?_) (fun c9 => ?_)
        · have h := h.1 c9
          obtain ⟨h10, h⟩ := h
          refine gx_iinc C hl dX5_leastBroken_31 rfl (PL' := [some (.inr (some o)), some (.inr x1), some (.inl x2), some (.inl x3), some (.inl x4), some (.inl (y5 + 1))]) rfl (fun ls hl => ?_)
          refine gx_goto (tgt := 3) C dX5_leastBroken_34 (by decide) ?_
          exact ih (y5 + 1) S4 H locs ls h10 hl G h
        · have h := h.2 c9
          refine gx_iload C hl dX5_leastBroken_28 rfl ?_
          exact gx_iret C G hret ry5 h dX5_leastBroken_30
  clear eA
  unfold PT_X5_leastBroken at h
  refine gx_iconst C dX5_leastBroken_0 ?_
  refine gx_istore C hl dX5_leastBroken_1 (Nat.le_of_ble_eq_true rfl) (PL' := [some (.inr (some o)), some (.inr x1), some (.inl x2), some (.inl x3), some (.inl x4), some (.inl 0)]) rfl (fun ls hl => ?_)
  obtain ⟨n9, h⟩ := h
  exact b3 n9 0 S H locs ls (show rng 0 by decide) hl G h
def B_J7_fill_53178_5 (V : Vt) (x1 : Option Nat) (x2 : Int) (Q : Me → Prop) : Nat → (Int → Int → Me → Prop)
  | 0 => fun _ _ _ => False
  | n + 1 => fun y2 y3 S => ((y3 ≤ y2 → Q S) ∧ (¬ y3 ≤ y2 → ∃ z2 : Nat, x1 = some z2 ∧ V.2.1 z2 = 12 ∧ (0 ≤ y2 ∧ y2 < (V.2.2.1 z2 : Int)) ∧ ∀ S4 : Me, S4 = sI S z2 (Int.toNat y2) x2 → (rng (y2 + 1)) ∧ B_J7_fill_53178_5 V x1 x2 Q n (y2 + 1) y3 S4))
def PT_J7_fill_53178 (V : Vt) (x1 : Option Nat) (x2 : Int) (S : Me) (Q : Me → Prop) : Prop := ∃ z6 : Nat, x1 = some z6 ∧ V.2.1 z6 = 12 ∧ (∃ n9 : Nat, B_J7_fill_53178_5 V x1 x2 Q n9 0 (V.2.2.1 z6 : Int) S)
theorem hd_J7_fill_53178 : yJ7_fill_53178.cls ≠ "java/lang/invoke/MethodHandle" ∧ yJ7_fill_53178.cls ≠ "java/lang/invoke/VarHandle" ∧ (parseMethodDescriptor yJ7_fill_53178.desc).map (fun d => d.parameters.length) = some 2 := by decide +kernel
set_option maxHeartbeats 4000000 in
set_option maxRecDepth 100000 in
theorem c_J7_fill_53178 (l : Launch) (D : va_G) (cy : ClassId × ClassId × ClassId × ClassId) (ad : Nat → Nat) {V : Vt} {S : Me} {x1 : Option Nat} {x2 : Int} (vx1 : ∀ z, x1 = some z → z < V.1) (rx2 : rng x2) {Q : Me → Prop} (h : PT_J7_fill_53178 V x1 x2 S Q) : KM l D cy yJ7_fill_53178 cJ7_fill_53178 4 (Option.none : Option Jvm.ClassFile.FieldType) 0 0 ad V S [.inr x1, .inl x2] (qV Q) := by
  refine KM.of (by decide) rfl (Nat.le_of_ble_eq_true rfl) (own := RJ7) (fun p e s m args below meth c A ls H locs eA C hret hml hmn hl G => ?_)
  have hl : lo ad ls [some (.inr x1), some (.inl x2), none, none] := hl
  have b5 : ∀ (n : Nat) (y2 : Int) (y3 : Int) (S : Me) (H : Heap) (locs : List Loc) (ls : Array Slot), rng y2 → rng y3 → lo ad ls [some (.inr x1), some (.inl x2), some (.inl y2), some (.inl y3)] → Gy D cy A s.heap ad V S H locs → B_J7_fill_53178_5 V x1 x2 Q n y2 y3 S → W p l e (rmx 0 0) s m args below meth c H locs 0 0 (qm below D cy ad V A args s (qV Q)) (F0 m 5 ls []) := by
    intro n
    induction n with
    | zero =>
      intro y2 y3 S H locs ls ry2 ry3 hl G h
      exact absurd h id
    | succ n ih =>
      intro y2 y3 S H locs ls ry2 ry3 hl G h
      rw [B_J7_fill_53178_5] at h
      refine gx_iload_n C hl dJ7_fill_53178_5 rfl ?_
      refine gx_iload_n C hl dJ7_fill_53178_6 rfl ?_
      refine gx_icmp_ge (tgt := 20) C ry2 ry3 dJ7_fill_53178_7 (by decide) (fun c1 => ?_) (fun c1 => ?_)
      · have h := h.1 c1
        exact gx_vret C G hret h dJ7_fill_53178_20
      · have h := h.2 c1
        refine gx_aload_n C hl dJ7_fill_53178_10 rfl ?_
        refine gx_iload_n C hl dJ7_fill_53178_11 rfl ?_
        refine gx_iload_n C hl dJ7_fill_53178_12 rfl ?_
        obtain ⟨z2, hz2, tz2, h⟩ := h
        have lz2 := (vx1 z2 hz2)
        obtain ⟨h3, h⟩ := h
        refine gx_iast C G hz2 lz2 tz2 ry2 rx2 h3.1 h3.2 dJ7_fill_53178_13 (fun H locs G => ?_)
        obtain ⟨S4, eS4⟩ : ∃ q9 : Me, q9 = sI S z2 (Int.toNat y2) x2 := ⟨_, rfl⟩
        have h := h S4 eS4
        rw [← eS4] at G
        obtain ⟨h5, h⟩ := h
        refine gx_iinc C hl dJ7_fill_53178_14 rfl (PL' := [some (.inr x1), some (.inl x2), some (.inl (y2 + 1)), some (.inl y3)]) rfl (fun ls hl => ?_)
        refine gx_goto (tgt := 5) C dJ7_fill_53178_17 (by decide) ?_
        exact ih (y2 + 1) y3 S4 H locs ls h5 ry3 hl G h
  clear eA
  unfold PT_J7_fill_53178 at h
  refine gx_iconst C dJ7_fill_53178_0 ?_
  refine gx_istore_n C hl dJ7_fill_53178_1 (Nat.le_of_ble_eq_true rfl) (PL' := [some (.inr x1), some (.inl x2), some (.inl 0), none]) rfl (fun ls hl => ?_)
  refine gx_aload_n C hl dJ7_fill_53178_2 rfl ?_
  obtain ⟨z6, hz6, tz6, h⟩ := h
  have lz6 := (vx1 z6 hz6)
  refine gx_alen C G hz6 lz6 tz6 dJ7_fill_53178_3 ?_
  have r7 := G.l z6
  refine gx_istore_n C hl dJ7_fill_53178_4 (Nat.le_of_ble_eq_true rfl) (PL' := [some (.inr x1), some (.inl x2), some (.inl 0), some (.inl (V.2.2.1 z6 : Int))]) rfl (fun ls hl => ?_)
  obtain ⟨n9, h⟩ := h
  exact b5 n9 0 (V.2.2.1 z6 : Int) S H locs ls (show rng 0 by decide) r7 hl G h
def PT_X5_forget (V : Vt) (o : Nat) (S : Me) (Q : Me → Prop) : Prop := PT_J7_fill_53178 V (some (o + 1)) (-1000) S (fun S1 => PT_J7_fill_53178 V (some (o + 2)) (-1000) S1 (fun S2 => PT_J7_fill_53178 V (some (o + 3)) (-1000) S2 (fun S3 => PT_J7_fill_53178 V (some (o + 4)) (-1000) S3 (fun S4 => PT_J7_fill_53178 V (some (o + 5)) (-1000) S4 (fun S5 => PT_J7_fill_53178 V (some (o + 6)) (-1000) S5 (fun S6 => PT_J7_fill_53178 V (some (o + 7)) (-1000) S6 (fun S7 => ∀ S8 : Me, S8 = sI S7 o 7 0 → ∀ S9 : Me, S9 = sI S8 o 8 (-1000) → ∀ S10 : Me, S10 = sI S9 o 9 (-1000) → ∀ S11 : Me, S11 = sI S10 o 10 (-1000) → ∀ S12 : Me, S12 = sI S11 o 11 (-1000) → Q S12)))))))
theorem hd_X5_forget : yX5_forget.cls ≠ "java/lang/invoke/MethodHandle" ∧ yX5_forget.cls ≠ "java/lang/invoke/VarHandle" ∧ (parseMethodDescriptor yX5_forget.desc).map (fun d => d.parameters.length) = some 0 := by decide +kernel
set_option maxHeartbeats 4000000 in
set_option maxRecDepth 100000 in
theorem c_X5_forget (l : Launch) (D : va_G) (cy : ClassId × ClassId × ClassId × ClassId) (ad : Nat → Nat) {V : Vt} {S : Me} {o : Nat} (hV : fX5 V o) {Q : Me → Prop} (h : PT_X5_forget V o S Q) : KM l D cy yX5_forget cX5_forget 1 (Option.none : Option Jvm.ClassFile.FieldType) 1 23 ad V S [.inr (some o)] (qV Q) := by
  refine KM.of (by decide) rfl (Nat.le_of_ble_eq_true rfl) (own := RX5) (fun p e s m args below meth c A ls H locs eA C hret hml hmn hl G => ?_)
  have hl : lo ad ls [some (.inr (some o))] := hl
  clear eA
  unfold PT_X5_forget at h
  refine gx_aload_n C hl dX5_forget_0 rfl ?_
  refine gx_getF C G rfl (fX5_o hV) (fo4_0 (fX5_c hV)) (fX5_opens hV) uw_44 (fun _ h9 => h9) dX5_forget_1 ?_
  refine gx_sipush C dX5_forget_4 (by decide) ?_
  refine gx_callS C G hl hml (c_J7_fill_53178 l D cy ad (vsome (fX5_opens_l hV)) (show rng (-1000) by decide) h) uw_43 uw_41 uw_42 uw_3 hd_J7_fill_53178 ⟨Nat.le_of_ble_eq_true rfl, Nat.le_of_ble_eq_true rfl⟩ ⟨Nat.zero_le _, Nat.zero_le _⟩ rfl rfl (hw_le ad [] rfl (Nat.le_of_ble_eq_true rfl)) dX5_forget_7 (kkV (fun S1 H locs h G => ?_))
  refine gx_aload_n C hl dX5_forget_10 rfl ?_
  refine gx_getF C G rfl (fX5_o hV) (fo4_1 (fX5_c hV)) (fX5_opensBeside hV) uw_45 (fun _ h9 => h9) dX5_forget_11 ?_
  refine gx_sipush C dX5_forget_14 (by decide) ?_
  refine gx_callS C G hl hml (c_J7_fill_53178 l D cy ad (vsome (fX5_opensBeside_l hV)) (show rng (-1000) by decide) h) uw_43 uw_41 uw_42 uw_3 hd_J7_fill_53178 ⟨Nat.le_of_ble_eq_true rfl, Nat.le_of_ble_eq_true rfl⟩ ⟨Nat.zero_le _, Nat.zero_le _⟩ rfl rfl (hw_le ad [] rfl (Nat.le_of_ble_eq_true rfl)) dX5_forget_17 (kkV (fun S2 H locs h G => ?_))
  refine gx_aload_n C hl dX5_forget_20 rfl ?_
  refine gx_getF C G rfl (fX5_o hV) (fo4_2 (fX5_c hV)) (fX5_shuts hV) uw_46 (fun _ h9 => h9) dX5_forget_21 ?_
  refine gx_sipush C dX5_forget_24 (by decide) ?_
  refine gx_callS C G hl hml (c_J7_fill_53178 l D cy ad (vsome (fX5_shuts_l hV)) (show rng (-1000) by decide) h) uw_43 uw_41 uw_42 uw_3 hd_J7_fill_53178 ⟨Nat.le_of_ble_eq_true rfl, Nat.le_of_ble_eq_true rfl⟩ ⟨Nat.zero_le _, Nat.zero_le _⟩ rfl rfl (hw_le ad [] rfl (Nat.le_of_ble_eq_true rfl)) dX5_forget_27 (kkV (fun S3 H locs h G => ?_))
  refine gx_aload_n C hl dX5_forget_30 rfl ?_
  refine gx_getF C G rfl (fX5_o hV) (fo4_3 (fX5_c hV)) (fX5_reads hV) uw_47 (fun _ h9 => h9) dX5_forget_31 ?_
  refine gx_sipush C dX5_forget_34 (by decide) ?_
  refine gx_callS C G hl hml (c_J7_fill_53178 l D cy ad (vsome (fX5_reads_l hV)) (show rng (-1000) by decide) h) uw_43 uw_41 uw_42 uw_3 hd_J7_fill_53178 ⟨Nat.le_of_ble_eq_true rfl, Nat.le_of_ble_eq_true rfl⟩ ⟨Nat.zero_le _, Nat.zero_le _⟩ rfl rfl (hw_le ad [] rfl (Nat.le_of_ble_eq_true rfl)) dX5_forget_37 (kkV (fun S4 H locs h G => ?_))
  refine gx_aload_n C hl dX5_forget_40 rfl ?_
  refine gx_getF C G rfl (fX5_o hV) (fo4_4 (fX5_c hV)) (fX5_writes hV) uw_48 (fun _ h9 => h9) dX5_forget_41 ?_
  refine gx_sipush C dX5_forget_44 (by decide) ?_
  refine gx_callS C G hl hml (c_J7_fill_53178 l D cy ad (vsome (fX5_writes_l hV)) (show rng (-1000) by decide) h) uw_43 uw_41 uw_42 uw_3 hd_J7_fill_53178 ⟨Nat.le_of_ble_eq_true rfl, Nat.le_of_ble_eq_true rfl⟩ ⟨Nat.zero_le _, Nat.zero_le _⟩ rfl rfl (hw_le ad [] rfl (Nat.le_of_ble_eq_true rfl)) dX5_forget_47 (kkV (fun S5 H locs h G => ?_))
  refine gx_aload_n C hl dX5_forget_50 rfl ?_
  refine gx_getF C G rfl (fX5_o hV) (fo4_5 (fX5_c hV)) (fX5_columnsOfGroups hV) uw_49 (fun _ h9 => h9) dX5_forget_51 ?_
  refine gx_sipush C dX5_forget_54 (by decide) ?_
  refine gx_callS C G hl hml (c_J7_fill_53178 l D cy ad (vsome (fX5_columnsOfGroups_l hV)) (show rng (-1000) by decide) h) uw_43 uw_41 uw_42 uw_3 hd_J7_fill_53178 ⟨Nat.le_of_ble_eq_true rfl, Nat.le_of_ble_eq_true rfl⟩ ⟨Nat.zero_le _, Nat.zero_le _⟩ rfl rfl (hw_le ad [] rfl (Nat.le_of_ble_eq_true rfl)) dX5_forget_57 (kkV (fun S6 H locs h G => ?_))
  refine gx_aload_n C hl dX5_forget_60 rfl ?_
  refine gx_getF C G rfl (fX5_o hV) (fo4_6 (fX5_c hV)) (fX5_fourOpens hV) uw_50 (fun _ h9 => h9) dX5_forget_61 ?_
  refine gx_sipush C dX5_forget_64 (by decide) ?_
  refine gx_callS C G hl hml (c_J7_fill_53178 l D cy ad (vsome (fX5_fourOpens_l hV)) (show rng (-1000) by decide) h) uw_43 uw_41 uw_42 uw_3 hd_J7_fill_53178 ⟨Nat.le_of_ble_eq_true rfl, Nat.le_of_ble_eq_true rfl⟩ ⟨Nat.zero_le _, Nat.zero_le _⟩ rfl rfl (hw_le ad [] rfl (Nat.le_of_ble_eq_true rfl)) dX5_forget_67 (kkV (fun S7 H locs h G => ?_))
  refine gx_aload_n C hl dX5_forget_70 rfl ?_
  refine gx_iconst C dX5_forget_71 ?_
  refine gx_putI C G rfl (fX5_o hV) (fo4_7 (fX5_c hV)) (show rng 0 by decide) uw_51 (fun _ h9 => h9) dX5_forget_72 (fun H locs G => ?_)
  obtain ⟨S8, eS8⟩ : ∃ q9 : Me, q9 = sI S7 o 7 0 := ⟨_, rfl⟩
  have h := h S8 eS8
  rw [← eS8] at G
  refine gx_aload_n C hl dX5_forget_75 rfl ?_
  refine gx_sipush C dX5_forget_76 (by decide) ?_
  refine gx_putI C G rfl (fX5_o hV) (fo4_8 (fX5_c hV)) (show rng (-1000) by decide) uw_53 (fun _ h9 => h9) dX5_forget_79 (fun H locs G => ?_)
  obtain ⟨S9, eS9⟩ : ∃ q9 : Me, q9 = sI S8 o 8 (-1000) := ⟨_, rfl⟩
  have h := h S9 eS9
  rw [← eS9] at G
  refine gx_aload_n C hl dX5_forget_82 rfl ?_
  refine gx_sipush C dX5_forget_83 (by decide) ?_
  refine gx_putI C G rfl (fX5_o hV) (fo4_9 (fX5_c hV)) (show rng (-1000) by decide) uw_54 (fun _ h9 => h9) dX5_forget_86 (fun H locs G => ?_)
  obtain ⟨S10, eS10⟩ : ∃ q9 : Me, q9 = sI S9 o 9 (-1000) := ⟨_, rfl⟩
  have h := h S10 eS10
  rw [← eS10] at G
  refine gx_aload_n C hl dX5_forget_89 rfl ?_
  refine gx_sipush C dX5_forget_90 (by decide) ?_
  refine gx_putI C G rfl (fX5_o hV) (fo4_10 (fX5_c hV)) (show rng (-1000) by decide) uw_55 (fun _ h9 => h9) dX5_forget_93 (fun H locs G => ?_)
  obtain ⟨S11, eS11⟩ : ∃ q9 : Me, q9 = sI S10 o 10 (-1000) := ⟨_, rfl⟩
  have h := h S11 eS11
  rw [← eS11] at G
  refine gx_aload_n C hl dX5_forget_96 rfl ?_
  refine gx_sipush C dX5_forget_97 (by decide) ?_
  refine gx_putI C G rfl (fX5_o hV) (fo4_11 (fX5_c hV)) (show rng (-1000) by decide) uw_56 (fun _ h9 => h9) dX5_forget_100 (fun H locs G => ?_)
  obtain ⟨S12, eS12⟩ : ∃ q9 : Me, q9 = sI S11 o 11 (-1000) := ⟨_, rfl⟩
  have h := h S12 eS12
  rw [← eS12] at G
  exact gx_vret C G hret h dX5_forget_103
def B_X5_rememberOpen_26 (V : Vt) (o : Nat) (x1 : Int) (x2 : Int) (K9 : Int → Me → Prop) (y3 : Int) (S : Me) (Q : Me → Prop) : Prop := (rng (y3 + 1)) ∧ K9 (y3 + 1) S
def B_X5_rememberOpen_9 (V : Vt) (o : Nat) (x1 : Int) (x2 : Int) (Q : Me → Prop) : Nat → (Int → Me → Prop)
  | 0 => fun _ _ => False
  | n + 1 => fun y3 S => ((4 ≤ y3 → (0 ≤ (Int.tmod (S.1 o 7) 4) ∧ (Int.tmod (S.1 o 7) 4) < 4) ∧ ∀ S5 : Me, S5 = sI S (o + 7) (Int.toNat (Int.tmod (S.1 o 7) 4)) x2 → (rng ((S5.1 o 7) + 1)) ∧ ∀ S8 : Me, S8 = sI S5 o 7 ((S5.1 o 7) + 1) → Q S8) ∧ (¬ 4 ≤ y3 → ((y3 = x1 → B_X5_rememberOpen_26 V o x1 x2 (B_X5_rememberOpen_9 V o x1 x2 Q n) y3 S Q) ∧ (¬ y3 = x1 → (0 ≤ y3 ∧ y3 < 4) ∧ ∀ S11 : Me, S11 = sI S (o + 2) (Int.toNat y3) x2 → B_X5_rememberOpen_26 V o x1 x2 (B_X5_rememberOpen_9 V o x1 x2 Q n) y3 S11 Q))))
def PT_X5_rememberOpen (V : Vt) (o : Nat) (x1 : Int) (x2 : Int) (S : Me) (Q : Me → Prop) : Prop := (0 ≤ x1 ∧ x1 < 4) ∧ ∀ S13 : Me, S13 = sI S (o + 1) (Int.toNat x1) x2 → (∃ n9 : Nat, B_X5_rememberOpen_9 V o x1 x2 Q n9 0 S13)
theorem hd_X5_rememberOpen : yX5_rememberOpen.cls ≠ "java/lang/invoke/MethodHandle" ∧ yX5_rememberOpen.cls ≠ "java/lang/invoke/VarHandle" ∧ (parseMethodDescriptor yX5_rememberOpen.desc).map (fun d => d.parameters.length) = some 2 := by decide +kernel
set_option maxHeartbeats 4000000 in
set_option maxRecDepth 100000 in
theorem c_X5_rememberOpen (l : Launch) (D : va_G) (cy : ClassId × ClassId × ClassId × ClassId) (ad : Nat → Nat) {V : Vt} {S : Me} {o : Nat} {x1 : Int} {x2 : Int} (hV : fX5 V o) (rx1 : rng x1) (rx2 : rng x2) {Q : Me → Prop} (h : PT_X5_rememberOpen V o x1 x2 S Q) : KM l D cy yX5_rememberOpen cX5_rememberOpen 4 (Option.none : Option Jvm.ClassFile.FieldType) 0 0 ad V S [.inr (some o), .inl x1, .inl x2] (qV Q) := by
  refine KM.of (by decide) rfl (Nat.le_of_ble_eq_true rfl) (own := RX5) (fun p e s m args below meth c A ls H locs eA C hret hml hmn hl G => ?_)
  have hl : lo ad ls [some (.inr (some o)), some (.inl x1), some (.inl x2), none] := hl
  have b26 : ∀ (K9 : Int → Me → Prop) (hK9 : ∀ (y3 : Int) (S : Me) (H : Heap) (locs : List Loc) (ls : Array Slot), rng y3 → lo ad ls [some (.inr (some o)), some (.inl x1), some (.inl x2), some (.inl y3)] → Gy D cy A s.heap ad V S H locs → K9 y3 S → W p l e (rmx 0 0) s m args below meth c H locs 0 0 (qm below D cy ad V A args s (qV Q)) (F0 m 9 ls [])) (y3 : Int) (S : Me) (H : Heap) (locs : List Loc) (ls : Array Slot), rng y3 → lo ad ls [some (.inr (some o)), some (.inl x1), some (.inl x2), some (.inl y3)] → Gy D cy A s.heap ad V S H locs → B_X5_rememberOpen_26 V o x1 x2 K9 y3 S Q → W p l e (rmx 0 0) s m args below meth c H locs 0 0 (qm below D cy ad V A args s (qV Q)) (F0 m 26 ls []) := by
    intro K9 hK9 y3 S H locs ls ry3 hl G h
    unfold B_X5_rememberOpen_26 at h
    obtain ⟨h1, h⟩ := h
    refine gx_iinc C hl dX5_rememberOpen_26 rfl (PL' := [some (.inr (some o)), some (.inl x1), some (.inl x2), some (.inl (y3 + 1))]) rfl (fun ls hl => ?_)
    refine gx_goto (tgt := 9) C dX5_rememberOpen_29 (by decide) ?_
    exact hK9 (y3 + 1) S H locs ls h1 hl G h
  have b9 : ∀ (n : Nat) (y3 : Int) (S : Me) (H : Heap) (locs : List Loc) (ls : Array Slot), rng y3 → lo ad ls [some (.inr (some o)), some (.inl x1), some (.inl x2), some (.inl y3)] → Gy D cy A s.heap ad V S H locs → B_X5_rememberOpen_9 V o x1 x2 Q n y3 S → W p l e (rmx 0 0) s m args below meth c H locs 0 0 (qm below D cy ad V A args s (qV Q)) (F0 m 9 ls []) := by
    intro n
    induction n with
    | zero =>
      intro y3 S H locs ls ry3 hl G h
      exact absurd h id
    | succ n ih =>
      intro y3 S H locs ls ry3 hl G h
      rw [B_X5_rememberOpen_9] at h
      refine gx_iload_n C hl dX5_rememberOpen_9 rfl ?_
      refine gx_iconst C dX5_rememberOpen_10 ?_
      refine gx_icmp_ge (tgt := 32) C ry3 (show rng 4 by decide) dX5_rememberOpen_11 (by decide) (fun c2 => ?_) (fun c2 => ?_)
      · have h := h.1 c2
        refine gx_aload_n C hl dX5_rememberOpen_32 rfl ?_
        refine gx_getF C G rfl (fX5_o hV) (fo4_6 (fX5_c hV)) (fX5_fourOpens hV) uw_50 (fun _ h9 => h9) dX5_rememberOpen_33 ?_
        refine gx_aload_n C hl dX5_rememberOpen_36 rfl ?_
        refine gx_getI C G rfl (fX5_o hV) (fo4_7 (fX5_c hV)) uw_51 (fun _ h9 => h9) dX5_rememberOpen_37 ?_
        have r3 := G.r o 7
        refine gx_iconst C dX5_rememberOpen_40 ?_
        refine gx_irem C r3 (show rng 4 by decide) (by decide) dX5_rememberOpen_41 ?_
        refine gx_iload_n C hl dX5_rememberOpen_42 rfl ?_
        obtain ⟨h4, h⟩ := h
        refine gx_iast C G rfl (fX5_fourOpens_l hV) (fX5_fourOpens_t hV) (rg_md r3) rx2 h4.1 (ixl (fX5_fourOpens_n hV) h4.2) dX5_rememberOpen_43 (fun H locs G => ?_)
        obtain ⟨S5, eS5⟩ : ∃ q9 : Me, q9 = sI S (o + 7) (Int.toNat (Int.tmod (S.1 o 7) 4)) x2 := ⟨_, rfl⟩
        have h := h S5 eS5
        rw [← eS5] at G
        refine gx_aload_n C hl dX5_rememberOpen_44 rfl ?_
        refine gx_dupR C dX5_rememberOpen_45 ?_
        refine gx_getI C G rfl (fX5_o hV) (fo4_7 (fX5_c hV)) uw_51 (fun _ h9 => h9) dX5_rememberOpen_46 ?_
        have r6 := G.r o 7
        refine gx_iconst C dX5_rememberOpen_49 ?_
        obtain ⟨h7, h⟩ := h
        refine gx_iadd C dX5_rememberOpen_50 ?_
        refine gx_putI C G rfl (fX5_o hV) (fo4_7 (fX5_c hV)) h7 uw_51 (fun _ h9 => h9) dX5_rememberOpen_51 (fun H locs G => ?_)
        obtain ⟨S8, eS8⟩ : ∃ q9 : Me, q9 = sI S5 o 7 ((S5.1 o 7) + 1) := ⟨_, rfl⟩
        have h := h S8 eS8
        rw [← eS8] at G
        exact gx_vret C G hret h dX5_rememberOpen_54
      · have h := h.2 c2
        refine gx_iload_n C hl dX5_rememberOpen_14 rfl ?_
        refine gx_iload_n C hl dX5_rememberOpen_15 rfl ?_
        refine gx_icmp_eq (tgt := 26) C ry3 rx1 dX5_rememberOpen_16 (by decide) (fun c9 => ?_) (fun c9 => ?_)
        · have h := h.1 c9
          exact b26 (B_X5_rememberOpen_9 V o x1 x2 Q n) ih y3 S H locs ls ry3 hl G h
        · have h := h.2 c9
          refine gx_aload_n C hl dX5_rememberOpen_19 rfl ?_
          refine gx_getF C G rfl (fX5_o hV) (fo4_1 (fX5_c hV)) (fX5_opensBeside hV) uw_45 (fun _ h9 => h9) dX5_rememberOpen_20 ?_
          refine gx_iload_n C hl dX5_rememberOpen_23 rfl ?_
          refine gx_iload_n C hl dX5_rememberOpen_24 rfl ?_
          obtain ⟨h10, h⟩ := h
          refine gx_iast C G rfl (fX5_opensBeside_l hV) (fX5_opensBeside_t hV) ry3 rx2 h10.1 (ixl (fX5_opensBeside_n hV) h10.2) dX5_rememberOpen_25 (fun H locs G => ?_)
          obtain ⟨S11, eS11⟩ : ∃ q9 : Me, q9 = sI S (o + 2) (Int.toNat y3) x2 := ⟨_, rfl⟩
          have h := h S11 eS11
          rw [← eS11] at G
          exact b26 (B_X5_rememberOpen_9 V o x1 x2 Q n) ih y3 S11 H locs ls ry3 hl G h
  clear eA
  unfold PT_X5_rememberOpen at h
  refine gx_aload_n C hl dX5_rememberOpen_0 rfl ?_
  refine gx_getF C G rfl (fX5_o hV) (fo4_0 (fX5_c hV)) (fX5_opens hV) uw_44 (fun _ h9 => h9) dX5_rememberOpen_1 ?_
  refine gx_iload_n C hl dX5_rememberOpen_4 rfl ?_
  refine gx_iload_n C hl dX5_rememberOpen_5 rfl ?_
  obtain ⟨h12, h⟩ := h
  refine gx_iast C G rfl (fX5_opens_l hV) (fX5_opens_t hV) rx1 rx2 h12.1 (ixl (fX5_opens_n hV) h12.2) dX5_rememberOpen_6 (fun H locs G => ?_)
  obtain ⟨S13, eS13⟩ : ∃ q9 : Me, q9 = sI S (o + 1) (Int.toNat x1) x2 := ⟨_, rfl⟩
  have h := h S13 eS13
  rw [← eS13] at G
  refine gx_iconst C dX5_rememberOpen_7 ?_
  refine gx_istore_n C hl dX5_rememberOpen_8 (Nat.le_of_ble_eq_true rfl) (PL' := [some (.inr (some o)), some (.inl x1), some (.inl x2), some (.inl 0)]) rfl (fun ls hl => ?_)
  obtain ⟨n9, h⟩ := h
  exact b9 n9 0 S13 H locs ls (show rng 0 by decide) hl G h
def PT_X5_remember (V : Vt) (o : Nat) (x1 : Int) (x2 : Int) (x3 : Int) (S : Me) (Q : Me → Prop) : Prop := ((x1 = 0 → PT_X5_rememberOpen V o x2 x3 S (fun S1 => Q S1)) ∧ (x1 = 1 → (0 ≤ x2 ∧ x2 < 4) ∧ ∀ S4 : Me, S4 = sI S (o + 3) (Int.toNat x2) x3 → ∀ S5 : Me, S5 = sI S4 o 8 x3 → Q S5) ∧ (x1 = 2 → (0 ≤ x2 ∧ x2 < 4) ∧ ∀ S8 : Me, S8 = sI S (o + 4) (Int.toNat x2) x3 → ∀ S9 : Me, S9 = sI S8 o 9 x3 → (0 ≤ (Int.tdiv x2 2) ∧ (Int.tdiv x2 2) < 2) ∧ ∀ S11 : Me, S11 = sI S9 (o + 6) (Int.toNat (Int.tdiv x2 2)) x3 → Q S11) ∧ (x1 = 3 → (0 ≤ x2 ∧ x2 < 4) ∧ ∀ S14 : Me, S14 = sI S (o + 5) (Int.toNat x2) x3 → ∀ S15 : Me, S15 = sI S14 o 10 x3 → (0 ≤ (Int.tdiv x2 2) ∧ (Int.tdiv x2 2) < 2) ∧ ∀ S17 : Me, S17 = sI S15 (o + 6) (Int.toNat (Int.tdiv x2 2)) x3 → Q S17) ∧ ((x1 < 0 ∨ 3 < x1) → ∀ S19 : Me, S19 = sI S o 11 x3 → Q S19))
theorem hd_X5_remember : yX5_remember.cls ≠ "java/lang/invoke/MethodHandle" ∧ yX5_remember.cls ≠ "java/lang/invoke/VarHandle" ∧ (parseMethodDescriptor yX5_remember.desc).map (fun d => d.parameters.length) = some 3 := by decide +kernel
set_option maxHeartbeats 4000000 in
set_option maxRecDepth 100000 in
theorem c_X5_remember (l : Launch) (D : va_G) (cy : ClassId × ClassId × ClassId × ClassId) (ad : Nat → Nat) {V : Vt} {S : Me} {o : Nat} {x1 : Int} {x2 : Int} {x3 : Int} (hV : fX5 V o) (rx1 : rng x1) (rx2 : rng x2) (rx3 : rng x3) {Q : Me → Prop} (h : PT_X5_remember V o x1 x2 x3 S Q) : KM l D cy yX5_remember cX5_remember 4 (Option.none : Option Jvm.ClassFile.FieldType) 1 23 ad V S [.inr (some o), .inl x1, .inl x2, .inl x3] (qV Q) := by
  refine KM.of (by decide) rfl (Nat.le_of_ble_eq_true rfl) (own := RX5) (fun p e s m args below meth c A ls H locs eA C hret hml hmn hl G => ?_)
  have hl : lo ad ls [some (.inr (some o)), some (.inl x1), some (.inl x2), some (.inl x3)] := hl
  clear eA
  unfold PT_X5_remember at h
  refine gx_iload_n C hl dX5_remember_0 rfl ?_
  by_cases c2 : x1 = 0
  · refine gx_tableIn (tgt := 32) C rx1 dX5_remember_1 0 c2 (by decide) (by decide) rfl (by decide) ?_
    have h := h.1 c2
    refine gx_aload_n C hl dX5_remember_32 rfl ?_
    refine gx_iload_n C hl dX5_remember_33 rfl ?_
    refine gx_iload_n C hl dX5_remember_34 rfl ?_
    refine gx_callV C G hl hml (c_X5_rememberOpen l D cy ad hV rx2 rx3 h) rfl (fX5_o hV) (by rw [(fX5_c hV)]; rfl) (by rw [(fX5_c hV)]; decide) rfl uw_603 uw_600 uw_602 up_12 uw_2 hd_X5_rememberOpen ⟨Nat.le_of_ble_eq_true rfl, Nat.le_of_ble_eq_true rfl⟩ ⟨Nat.zero_le _, Nat.zero_le _⟩ rfl rfl (hw_le ad [] rfl (Nat.le_of_ble_eq_true rfl)) dX5_remember_35 (kkV (fun S1 H locs h G => ?_))
    refine gx_goto (tgt := 109) C dX5_remember_38 (by decide) ?_
    exact gx_vret C G hret h dX5_remember_109
  · by_cases c6 : x1 = 1
    · refine gx_tableIn (tgt := 41) C rx1 dX5_remember_1 1 c6 (by decide) (by decide) rfl (by decide) ?_
      have h := h.2.1 c6
      refine gx_aload_n C hl dX5_remember_41 rfl ?_
      refine gx_getF C G rfl (fX5_o hV) (fo4_2 (fX5_c hV)) (fX5_shuts hV) uw_46 (fun _ h9 => h9) dX5_remember_42 ?_
      refine gx_iload_n C hl dX5_remember_45 rfl ?_
      refine gx_iload_n C hl dX5_remember_46 rfl ?_
      obtain ⟨h3, h⟩ := h
      refine gx_iast C G rfl (fX5_shuts_l hV) (fX5_shuts_t hV) rx2 rx3 h3.1 (ixl (fX5_shuts_n hV) h3.2) dX5_remember_47 (fun H locs G => ?_)
      obtain ⟨S4, eS4⟩ : ∃ q9 : Me, q9 = sI S (o + 3) (Int.toNat x2) x3 := ⟨_, rfl⟩
      have h := h S4 eS4
      rw [← eS4] at G
      refine gx_aload_n C hl dX5_remember_48 rfl ?_
      refine gx_iload_n C hl dX5_remember_49 rfl ?_
      refine gx_putI C G rfl (fX5_o hV) (fo4_8 (fX5_c hV)) rx3 uw_53 (fun _ h9 => h9) dX5_remember_50 (fun H locs G => ?_)
      obtain ⟨S5, eS5⟩ : ∃ q9 : Me, q9 = sI S4 o 8 x3 := ⟨_, rfl⟩
      have h := h S5 eS5
      rw [← eS5] at G
      refine gx_goto (tgt := 109) C dX5_remember_53 (by decide) ?_
      exact gx_vret C G hret h dX5_remember_109
    · by_cases c12 : x1 = 2
      · refine gx_tableIn (tgt := 56) C rx1 dX5_remember_1 2 c12 (by decide) (by decide) rfl (by decide) ?_
        have h := h.2.2.1 c12
        refine gx_aload_n C hl dX5_remember_56 rfl ?_
        refine gx_getF C G rfl (fX5_o hV) (fo4_3 (fX5_c hV)) (fX5_reads hV) uw_47 (fun _ h9 => h9) dX5_remember_57 ?_
        refine gx_iload_n C hl dX5_remember_60 rfl ?_
        refine gx_iload_n C hl dX5_remember_61 rfl ?_
        obtain ⟨h7, h⟩ := h
        refine gx_iast C G rfl (fX5_reads_l hV) (fX5_reads_t hV) rx2 rx3 h7.1 (ixl (fX5_reads_n hV) h7.2) dX5_remember_62 (fun H locs G => ?_)
        obtain ⟨S8, eS8⟩ : ∃ q9 : Me, q9 = sI S (o + 4) (Int.toNat x2) x3 := ⟨_, rfl⟩
        have h := h S8 eS8
        rw [← eS8] at G
        refine gx_aload_n C hl dX5_remember_63 rfl ?_
        refine gx_iload_n C hl dX5_remember_64 rfl ?_
        refine gx_putI C G rfl (fX5_o hV) (fo4_9 (fX5_c hV)) rx3 uw_54 (fun _ h9 => h9) dX5_remember_65 (fun H locs G => ?_)
        obtain ⟨S9, eS9⟩ : ∃ q9 : Me, q9 = sI S8 o 9 x3 := ⟨_, rfl⟩
        have h := h S9 eS9
        rw [← eS9] at G
        refine gx_aload_n C hl dX5_remember_68 rfl ?_
        refine gx_getF C G rfl (fX5_o hV) (fo4_5 (fX5_c hV)) (fX5_columnsOfGroups hV) uw_49 (fun _ h9 => h9) dX5_remember_69 ?_
        refine gx_iload_n C hl dX5_remember_72 rfl ?_
        refine gx_iconst C dX5_remember_73 ?_
        refine gx_idiv C rx2 (show rng 2 by decide) (by decide) dX5_remember_74 ?_
        refine gx_iload_n C hl dX5_remember_75 rfl ?_
        obtain ⟨h10, h⟩ := h
        refine gx_iast C G rfl (fX5_columnsOfGroups_l hV) (fX5_columnsOfGroups_t hV) (rg_dv rx2 (by decide)) rx3 h10.1 (ixl (fX5_columnsOfGroups_n hV) h10.2) dX5_remember_76 (fun H locs G => ?_)
        obtain ⟨S11, eS11⟩ : ∃ q9 : Me, q9 = sI S9 (o + 6) (Int.toNat (Int.tdiv x2 2)) x3 := ⟨_, rfl⟩
        have h := h S11 eS11
        rw [← eS11] at G
        refine gx_goto (tgt := 109) C dX5_remember_77 (by decide) ?_
        exact gx_vret C G hret h dX5_remember_109
      · by_cases c18 : x1 = 3
        · refine gx_tableIn (tgt := 80) C rx1 dX5_remember_1 3 c18 (by decide) (by decide) rfl (by decide) ?_
          have h := h.2.2.2.1 c18
          refine gx_aload_n C hl dX5_remember_80 rfl ?_
          refine gx_getF C G rfl (fX5_o hV) (fo4_4 (fX5_c hV)) (fX5_writes hV) uw_48 (fun _ h9 => h9) dX5_remember_81 ?_
          refine gx_iload_n C hl dX5_remember_84 rfl ?_
          refine gx_iload_n C hl dX5_remember_85 rfl ?_
          obtain ⟨h13, h⟩ := h
          refine gx_iast C G rfl (fX5_writes_l hV) (fX5_writes_t hV) rx2 rx3 h13.1 (ixl (fX5_writes_n hV) h13.2) dX5_remember_86 (fun H locs G => ?_)
          obtain ⟨S14, eS14⟩ : ∃ q9 : Me, q9 = sI S (o + 5) (Int.toNat x2) x3 := ⟨_, rfl⟩
          have h := h S14 eS14
          rw [← eS14] at G
          refine gx_aload_n C hl dX5_remember_87 rfl ?_
          refine gx_iload_n C hl dX5_remember_88 rfl ?_
          refine gx_putI C G rfl (fX5_o hV) (fo4_10 (fX5_c hV)) rx3 uw_55 (fun _ h9 => h9) dX5_remember_89 (fun H locs G => ?_)
          obtain ⟨S15, eS15⟩ : ∃ q9 : Me, q9 = sI S14 o 10 x3 := ⟨_, rfl⟩
          have h := h S15 eS15
          rw [← eS15] at G
          refine gx_aload_n C hl dX5_remember_92 rfl ?_
          refine gx_getF C G rfl (fX5_o hV) (fo4_5 (fX5_c hV)) (fX5_columnsOfGroups hV) uw_49 (fun _ h9 => h9) dX5_remember_93 ?_
          refine gx_iload_n C hl dX5_remember_96 rfl ?_
          refine gx_iconst C dX5_remember_97 ?_
          refine gx_idiv C rx2 (show rng 2 by decide) (by decide) dX5_remember_98 ?_
          refine gx_iload_n C hl dX5_remember_99 rfl ?_
          obtain ⟨h16, h⟩ := h
          refine gx_iast C G rfl (fX5_columnsOfGroups_l hV) (fX5_columnsOfGroups_t hV) (rg_dv rx2 (by decide)) rx3 h16.1 (ixl (fX5_columnsOfGroups_n hV) h16.2) dX5_remember_100 (fun H locs G => ?_)
          obtain ⟨S17, eS17⟩ : ∃ q9 : Me, q9 = sI S15 (o + 6) (Int.toNat (Int.tdiv x2 2)) x3 := ⟨_, rfl⟩
          have h := h S17 eS17
          rw [← eS17] at G
          refine gx_goto (tgt := 109) C dX5_remember_101 (by decide) ?_
          exact gx_vret C G hret h dX5_remember_109
        · have c20 : x1 < 0 ∨ 3 < x1 := by omega
          refine gx_tableOut (tgt := 104) C rx1 dX5_remember_1 c20 (by decide) ?_
          have h := h.2.2.2.2 c20
          refine gx_aload_n C hl dX5_remember_104 rfl ?_
          refine gx_iload_n C hl dX5_remember_105 rfl ?_
          refine gx_putI C G rfl (fX5_o hV) (fo4_11 (fX5_c hV)) rx3 uw_56 (fun _ h9 => h9) dX5_remember_106 (fun H locs G => ?_)
          obtain ⟨S19, eS19⟩ : ∃ q9 : Me, q9 = sI S o 11 x3 := ⟨_, rfl⟩
          have h := h S19 eS19
          rw [← eS19] at G
          exact gx_vret C G hret h dX5_remember_109
