/-! ===== THE LAW: its cases (written by wip/gen/law.py) ===== -/
theorem jJ_V {o : Nat} {V : Vt} {S : Me} {n : Int} (h : jJ o V S n) : jV o V := by
  obtain ⟨c, h, -⟩ := h
  exact h.1
def LC (p : Program) (s : State) (m : MethodId) (args : Array Value) (meth : Method) (c : Code) (D : va_G) (cy : ClassId × ClassId × ClassId × ClassId) (A : Nat → Prop) (b L : Nat) (xs : Nat → Int32) : Prop := Cx p s m args meth c cL_law RL D cy A ∧ va_X b L xs s s.heap ∧ b < s.heap.size ∧ ¬ A b ∧ L ≤ 3072 ∧ c.maxLocals = 8
section LW
variable {p : Program} {l : Launch} {e : Env} {s : State} {m : MethodId} {args : Array Value} {below : List Frame} {meth : Method} {c : Code} {H : Heap} {locs : List Loc} {cells slots : Nat} {Q : State → Prop} {ls : Array Slot} {D : va_G} {cy : ClassId × ClassId × ClassId × ClassId} {A : Nat → Prop} {ad : Nat → Nat} {V : Vt} {S : Me} {b L i : Nat} {xs : Nat → Int32} {n : Int}
theorem okH {V : Vt} {S : Me} {n : Int} (h : jJ 0 V S n) {i : Int} (hi : rng i) : ∀ v, some v ∈ lH i → okv V v := by
  have hV := (jJ_V h).2.2.1
  exact okP_N (okP_S (okv_R (vsome (by omega))) (okP_S (okv_R (vsome (by omega))) (okP_S (okv_R (vsome (by omega))) (okP_S (okv_I hi) (okP_N (okP_N (okP_N okP_0)))))))
theorem lc_time (B : LC p s m args meth c D cy A b L xs) (G : Gy D cy A s.heap ad V S H locs) (hl : l0 ad b ls (lH (i : Int))) (hJ : jJ 0 V S n) (hi : i + 6 ≤ L) (hn : n + 500 ≤ 300000) (hc : cells + 1 ≤ 601024) (hs : slots + 60 ≤ 7293033)
    (kk : ∀ (ad' : Nat → Nat) (V' : Vt) (S' : Me) (H1 : Heap) (locs1 : List Loc) (ls' : Array Slot), exV V V' → jJ 0 V' S' (n + 500) → l0 ad' b ls' (lH (i : Int)) → Gy D cy A s.heap ad' V' S' H1 locs1 → W p l e room_1 s m args below meth c H1 locs1 (cells + 1) (slots + 60) Q (F0 m 1167 ls' [])) : W p l e room_1 s m args below meth c H locs cells slots Q (F0 m 172 ls []) := by
  obtain ⟨C, hX, hbl, hbA, hL, hml⟩ := B
  have hV := (jJ_V hJ).1
  refine gx_aload_n C hl.1 dL_law_172 rfl ?_
  refine lr_arg (k := 1) C G hl hX hbl hbA hL (by omega) dL_law_173 dL_law_174 dL_law_176 dL_law_177 dL_law_178 ?_
  refine lr_arg (k := 2) C G hl hX hbl hbA hL (by omega) dL_law_179 dL_law_180 dL_law_182 dL_law_183 dL_law_184 ?_
  refine gx_callV (na := 2) C G hl.1 hml (c_X11_time l D cy ad hV (rn_i _) (rn_i _) (pr_time hJ)) rfl (fX11_o hV) (by rw [fX11_c hV]; rfl) (by rw [fX11_c hV]; decide) rfl uw_267 uw_264 uw_265 uw_266 uw_1 (by decide +kernel) ⟨Nat.le_of_ble_eq_true rfl, Nat.le_of_ble_eq_true rfl⟩ ⟨(show cells ≤ 601024 by omega), (show slots ≤ 7293033 by omega)⟩ rfl rfl (hw_le ad [] rfl (Nat.le_of_ble_eq_true rfl)) dL_law_185 (kkI (fun x S1 H locs rx h1 G => ?_))
  have hW := (jJ_V hJ).2.1
  refine gx_aload_n C hl.1 dL_law_188 rfl ?_
  refine lr_arg (k := 1) C G hl hX hbl hbA hL (by omega) dL_law_189 dL_law_190 dL_law_192 dL_law_193 dL_law_194 ?_
  refine lr_arg (k := 2) C G hl hX hbl hbA hL (by omega) dL_law_195 dL_law_196 dL_law_198 dL_law_199 dL_law_200 ?_
  refine gx_callV (na := 2) C G hl.1 hml (c_X12_time l D cy ad hW (rn_i _) (rn_i _) h1) rfl (fX12_o hW) (by rw [fX12_c hW]; rfl) (by rw [fX12_c hW]; decide) rfl uw_1113 uw_1110 uw_1111 uw_1112 uw_9 (by decide +kernel) ⟨Nat.le_of_ble_eq_true rfl, Nat.le_of_ble_eq_true rfl⟩ ⟨(show cells ≤ 601024 by omega), (show slots ≤ 7293033 by omega)⟩ rfl rfl (hw_le ad [.inl x] rfl (Nat.le_of_ble_eq_true rfl)) dL_law_201 (kkI (fun y S2 H locs ry h2 G => ?_))
  refine gx_icmp_eq (tgt := 1167) C rx ry dL_law_204 (by decide) (fun _ => ?_) (fun h => absurd h2.1.symm h)
  exact W.widen (k := cells + 1) (n := slots + 60) (by omega) (by omega) (kk _ _ _ _ _ _ (exV.rf _) (jJ_n h2.2 (by omega) hn) hl G)
theorem lc_refresh (B : LC p s m args meth c D cy A b L xs) (G : Gy D cy A s.heap ad V S H locs) (hl : l0 ad b ls (lH (i : Int))) (hJ : jJ 0 V S n) (hi : i + 6 ≤ L) (hn : n + 500 ≤ 300000) (hc : cells + 1 ≤ 601024) (hs : slots + 60 ≤ 7293033)
    (kk : ∀ (ad' : Nat → Nat) (V' : Vt) (S' : Me) (H1 : Heap) (locs1 : List Loc) (ls' : Array Slot), exV V V' → jJ 0 V' S' (n + 500) → l0 ad' b ls' (lH (i : Int)) → Gy D cy A s.heap ad' V' S' H1 locs1 → W p l e room_1 s m args below meth c H1 locs1 (cells + 1) (slots + 60) Q (F0 m 1167 ls' [])) : W p l e room_1 s m args below meth c H locs cells slots Q (F0 m 209 ls []) := by
  obtain ⟨C, hX, hbl, hbA, hL, hml⟩ := B
  have hV := (jJ_V hJ).1
  refine gx_aload_n C hl.1 dL_law_209 rfl ?_
  refine lr_arg (k := 1) C G hl hX hbl hbA hL (by omega) dL_law_210 dL_law_211 dL_law_213 dL_law_214 dL_law_215 ?_
  refine lr_arg (k := 2) C G hl hX hbl hbA hL (by omega) dL_law_216 dL_law_217 dL_law_219 dL_law_220 dL_law_221 ?_
  refine gx_callV (na := 2) C G hl.1 hml (c_X11_refresh l D cy ad hV (rn_i _) (rn_i _) (pr_refresh hJ)) rfl (fX11_o hV) (by rw [fX11_c hV]; rfl) (by rw [fX11_c hV]; decide) rfl uw_274 uw_271 uw_272 uw_273 uw_1 (by decide +kernel) ⟨Nat.le_of_ble_eq_true rfl, Nat.le_of_ble_eq_true rfl⟩ ⟨(show cells ≤ 601024 by omega), (show slots ≤ 7293033 by omega)⟩ rfl rfl (hw_le ad [] rfl (Nat.le_of_ble_eq_true rfl)) dL_law_222 (kkI (fun x S1 H locs rx h1 G => ?_))
  have hW := (jJ_V hJ).2.1
  refine gx_aload_n C hl.1 dL_law_225 rfl ?_
  refine lr_arg (k := 1) C G hl hX hbl hbA hL (by omega) dL_law_226 dL_law_227 dL_law_229 dL_law_230 dL_law_231 ?_
  refine lr_arg (k := 2) C G hl hX hbl hbA hL (by omega) dL_law_232 dL_law_233 dL_law_235 dL_law_236 dL_law_237 ?_
  refine gx_callV (na := 2) C G hl.1 hml (c_X12_refresh l D cy ad hW (rn_i _) (rn_i _) h1) rfl (fX12_o hW) (by rw [fX12_c hW]; rfl) (by rw [fX12_c hW]; decide) rfl uw_1122 uw_1119 uw_1120 uw_1121 uw_9 (by decide +kernel) ⟨Nat.le_of_ble_eq_true rfl, Nat.le_of_ble_eq_true rfl⟩ ⟨(show cells ≤ 601024 by omega), (show slots ≤ 7293033 by omega)⟩ rfl rfl (hw_le ad [.inl x] rfl (Nat.le_of_ble_eq_true rfl)) dL_law_238 (kkI (fun y S2 H locs ry h2 G => ?_))
  refine gx_icmp_eq (tgt := 1167) C rx ry dL_law_241 (by decide) (fun _ => ?_) (fun h => absurd h2.1.symm h)
  exact W.widen (k := cells + 1) (n := slots + 60) (by omega) (by omega) (kk _ _ _ _ _ _ (exV.rf _) (jJ_n h2.2 (by omega) hn) hl G)
theorem lc_order (B : LC p s m args meth c D cy A b L xs) (G : Gy D cy A s.heap ad V S H locs) (hl : l0 ad b ls (lH (i : Int))) (hJ : jJ 0 V S n) (hi : i + 6 ≤ L) (hn : n + 500 ≤ 300000) (hc : cells + 1 ≤ 601024) (hs : slots + 60 ≤ 7293033)
    (kk : ∀ (ad' : Nat → Nat) (V' : Vt) (S' : Me) (H1 : Heap) (locs1 : List Loc) (ls' : Array Slot), exV V V' → jJ 0 V' S' (n + 500) → l0 ad' b ls' (lH (i : Int)) → Gy D cy A s.heap ad' V' S' H1 locs1 → W p l e room_1 s m args below meth c H1 locs1 (cells + 1) (slots + 60) Q (F0 m 1167 ls' [])) : W p l e room_1 s m args below meth c H locs cells slots Q (F0 m 246 ls []) := by
  obtain ⟨C, hX, hbl, hbA, hL, hml⟩ := B
  have hV := (jJ_V hJ).1
  refine gx_aload_n C hl.1 dL_law_246 rfl ?_
  refine lr_arg (k := 1) C G hl hX hbl hbA hL (by omega) dL_law_247 dL_law_248 dL_law_250 dL_law_251 dL_law_252 ?_
  refine lr_arg (k := 2) C G hl hX hbl hbA hL (by omega) dL_law_253 dL_law_254 dL_law_256 dL_law_257 dL_law_258 ?_
  refine gx_callV (na := 2) C G hl.1 hml (c_X11_order l D cy ad hV (rn_i _) (rn_i _) (pr_order hJ)) rfl (fX11_o hV) (by rw [fX11_c hV]; rfl) (by rw [fX11_c hV]; decide) rfl uw_278 uw_275 uw_276 uw_277 uw_1 (by decide +kernel) ⟨Nat.le_of_ble_eq_true rfl, Nat.le_of_ble_eq_true rfl⟩ ⟨(show cells ≤ 601024 by omega), (show slots ≤ 7293033 by omega)⟩ rfl rfl (hw_le ad [] rfl (Nat.le_of_ble_eq_true rfl)) dL_law_259 (kkI (fun x S1 H locs rx h1 G => ?_))
  have hW := (jJ_V hJ).2.1
  refine gx_aload_n C hl.1 dL_law_262 rfl ?_
  refine lr_arg (k := 1) C G hl hX hbl hbA hL (by omega) dL_law_263 dL_law_264 dL_law_266 dL_law_267 dL_law_268 ?_
  refine lr_arg (k := 2) C G hl hX hbl hbA hL (by omega) dL_law_269 dL_law_270 dL_law_272 dL_law_273 dL_law_274 ?_
  refine gx_callV (na := 2) C G hl.1 hml (c_X12_order l D cy ad hW (rn_i _) (rn_i _) h1) rfl (fX12_o hW) (by rw [fX12_c hW]; rfl) (by rw [fX12_c hW]; decide) rfl uw_1129 uw_1126 uw_1127 uw_1128 uw_9 (by decide +kernel) ⟨Nat.le_of_ble_eq_true rfl, Nat.le_of_ble_eq_true rfl⟩ ⟨(show cells ≤ 601024 by omega), (show slots ≤ 7293033 by omega)⟩ rfl rfl (hw_le ad [.inl x] rfl (Nat.le_of_ble_eq_true rfl)) dL_law_275 (kkI (fun y S2 H locs ry h2 G => ?_))
  refine gx_icmp_eq (tgt := 1167) C rx ry dL_law_278 (by decide) (fun _ => ?_) (fun h => absurd h2.1.symm h)
  exact W.widen (k := cells + 1) (n := slots + 60) (by omega) (by omega) (kk _ _ _ _ _ _ (exV.rf _) (jJ_n h2.2 (by omega) hn) hl G)
theorem lc_ask (B : LC p s m args meth c D cy A b L xs) (G : Gy D cy A s.heap ad V S H locs) (hl : l0 ad b ls (lH (i : Int))) (hJ : jJ 0 V S n) (hi : i + 6 ≤ L) (hn : n + 500 ≤ 300000) (hc : cells + 1 ≤ 601024) (hs : slots + 60 ≤ 7293033)
    (kk : ∀ (ad' : Nat → Nat) (V' : Vt) (S' : Me) (H1 : Heap) (locs1 : List Loc) (ls' : Array Slot), exV V V' → jJ 0 V' S' (n + 500) → l0 ad' b ls' (lH (i : Int)) → Gy D cy A s.heap ad' V' S' H1 locs1 → W p l e room_1 s m args below meth c H1 locs1 (cells + 1) (slots + 60) Q (F0 m 1167 ls' [])) : W p l e room_1 s m args below meth c H locs cells slots Q (F0 m 283 ls []) := by
  obtain ⟨C, hX, hbl, hbA, hL, hml⟩ := B
  have hV := (jJ_V hJ).1
  refine gx_aload_n C hl.1 dL_law_283 rfl ?_
  refine lr_arg (k := 1) C G hl hX hbl hbA hL (by omega) dL_law_284 dL_law_285 dL_law_287 dL_law_288 dL_law_289 ?_
  refine lr_arg (k := 2) C G hl hX hbl hbA hL (by omega) dL_law_290 dL_law_291 dL_law_293 dL_law_294 dL_law_295 ?_
  refine gx_callVA (na := 2) C G hl.1 (okH hJ (by unfold rng; omega)) hml (c_X11_ask l D cy ad hV (rn_i _) (rn_i _) (pr_ask hJ)) rfl (fX11_o hV) (by rw [fX11_c hV]; rfl) (by rw [fX11_c hV]; decide) rfl uw_282 uw_279 uw_280 uw_281 uw_1 (by decide +kernel) ⟨Nat.le_of_ble_eq_true rfl, Nat.le_of_ble_eq_true rfl⟩ ⟨(show cells + 1 ≤ 601024 by omega), (show slots + 11 ≤ 7293033 by omega)⟩ rfl [] okS_0 rfl (Nat.le_of_ble_eq_true rfl) dL_law_296 (kaI (fun x ad1 V1 S1 H locs rx h1 hag hex hl1 G => ?_))
  have hW := fX12_x hex (jJ_V hJ).2.1
  replace hl : l0 ad1 b ls (lH (i : Int)) := ⟨hl1, hl.2⟩
  refine gx_aload_n C hl.1 dL_law_299 rfl ?_
  refine lr_arg (k := 1) C G hl hX hbl hbA hL (by omega) dL_law_300 dL_law_301 dL_law_303 dL_law_304 dL_law_305 ?_
  refine lr_arg (k := 2) C G hl hX hbl hbA hL (by omega) dL_law_306 dL_law_307 dL_law_309 dL_law_310 dL_law_311 ?_
  refine gx_callV (na := 2) C G hl.1 hml (c_X12_ask l D cy ad1 hW (rn_i _) (rn_i _) h1) rfl (fX12_o hW) (by rw [fX12_c hW]; rfl) (by rw [fX12_c hW]; decide) rfl uw_1134 uw_1131 uw_1132 uw_1133 uw_9 (by decide +kernel) ⟨Nat.le_of_ble_eq_true rfl, Nat.le_of_ble_eq_true rfl⟩ ⟨(show (cells + 1) ≤ 601024 by omega), (show (slots + 11) ≤ 7293033 by omega)⟩ rfl rfl (hw_le ad1 [.inl x] rfl (Nat.le_of_ble_eq_true rfl)) dL_law_312 (kkI (fun y S2 H locs ry h2 G => ?_))
  refine gx_icmp_eq (tgt := 1167) C rx ry dL_law_315 (by decide) (fun _ => ?_) (fun h => absurd h2.1.symm h)
  exact W.widen (k := cells + 1) (n := slots + 60) (by omega) (by omega) (kk _ _ _ _ _ _ hex (jJ_n h2.2 (by omega) hn) hl G)
theorem lc_write (B : LC p s m args meth c D cy A b L xs) (G : Gy D cy A s.heap ad V S H locs) (hl : l0 ad b ls (lH (i : Int))) (hJ : jJ 0 V S n) (hi : i + 6 ≤ L) (hn : n + 500 ≤ 300000) (hc : cells + 1 ≤ 601024) (hs : slots + 60 ≤ 7293033)
    (kk : ∀ (ad' : Nat → Nat) (V' : Vt) (S' : Me) (H1 : Heap) (locs1 : List Loc) (ls' : Array Slot), exV V V' → jJ 0 V' S' (n + 500) → l0 ad' b ls' (lH (i : Int)) → Gy D cy A s.heap ad' V' S' H1 locs1 → W p l e room_1 s m args below meth c H1 locs1 (cells + 1) (slots + 60) Q (F0 m 1167 ls' [])) : W p l e room_1 s m args below meth c H locs cells slots Q (F0 m 320 ls []) := by
  obtain ⟨C, hX, hbl, hbA, hL, hml⟩ := B
  have hV := (jJ_V hJ).1
  refine gx_aload_n C hl.1 dL_law_320 rfl ?_
  refine lr_arg (k := 1) C G hl hX hbl hbA hL (by omega) dL_law_321 dL_law_322 dL_law_324 dL_law_325 dL_law_326 ?_
  refine lr_arg (k := 2) C G hl hX hbl hbA hL (by omega) dL_law_327 dL_law_328 dL_law_330 dL_law_331 dL_law_332 ?_
  refine lr_arg (k := 3) C G hl hX hbl hbA hL (by omega) dL_law_333 dL_law_334 dL_law_336 dL_law_337 dL_law_338 ?_
  refine gx_callVA (na := 3) C G hl.1 (okH hJ (by unfold rng; omega)) hml (c_X11_write l D cy ad hV (rn_i _) (rn_i _) (rn_i _) (pr_write hJ)) rfl (fX11_o hV) (by rw [fX11_c hV]; rfl) (by rw [fX11_c hV]; decide) rfl uw_400 uw_397 uw_398 uw_399 uw_1 (by decide +kernel) ⟨Nat.le_of_ble_eq_true rfl, Nat.le_of_ble_eq_true rfl⟩ ⟨(show cells + 1 ≤ 601024 by omega), (show slots + 12 ≤ 7293033 by omega)⟩ rfl [] okS_0 rfl (Nat.le_of_ble_eq_true rfl) dL_law_339 (kaI (fun x ad1 V1 S1 H locs rx h1 hag hex hl1 G => ?_))
  have hW := fX12_x hex (jJ_V hJ).2.1
  replace hl : l0 ad1 b ls (lH (i : Int)) := ⟨hl1, hl.2⟩
  refine gx_aload_n C hl.1 dL_law_342 rfl ?_
  refine lr_arg (k := 1) C G hl hX hbl hbA hL (by omega) dL_law_343 dL_law_344 dL_law_346 dL_law_347 dL_law_348 ?_
  refine lr_arg (k := 2) C G hl hX hbl hbA hL (by omega) dL_law_349 dL_law_350 dL_law_352 dL_law_353 dL_law_354 ?_
  refine lr_arg (k := 3) C G hl hX hbl hbA hL (by omega) dL_law_355 dL_law_356 dL_law_358 dL_law_359 dL_law_360 ?_
  refine gx_callV (na := 3) C G hl.1 hml (c_X12_write l D cy ad1 hW (rn_i _) (rn_i _) (rn_i _) h1) rfl (fX12_o hW) (by rw [fX12_c hW]; rfl) (by rw [fX12_c hW]; decide) rfl uw_1152 uw_1149 uw_1150 uw_1151 uw_9 (by decide +kernel) ⟨Nat.le_of_ble_eq_true rfl, Nat.le_of_ble_eq_true rfl⟩ ⟨(show (cells + 1) ≤ 601024 by omega), (show (slots + 12) ≤ 7293033 by omega)⟩ rfl rfl (hw_le ad1 [.inl x] rfl (Nat.le_of_ble_eq_true rfl)) dL_law_361 (kkI (fun y S2 H locs ry h2 G => ?_))
  refine gx_icmp_eq (tgt := 1167) C rx ry dL_law_364 (by decide) (fun _ => ?_) (fun h => absurd h2.1.symm h)
  exact W.widen (k := cells + 1) (n := slots + 60) (by omega) (by omega) (kk _ _ _ _ _ _ hex (jJ_n h2.2 (by omega) hn) hl G)
theorem lc_mask (B : LC p s m args meth c D cy A b L xs) (G : Gy D cy A s.heap ad V S H locs) (hl : l0 ad b ls (lH (i : Int))) (hJ : jJ 0 V S n) (hi : i + 6 ≤ L) (hn : n + 500 ≤ 300000) (hc : cells + 1 ≤ 601024) (hs : slots + 60 ≤ 7293033)
    (kk : ∀ (ad' : Nat → Nat) (V' : Vt) (S' : Me) (H1 : Heap) (locs1 : List Loc) (ls' : Array Slot), exV V V' → jJ 0 V' S' (n + 500) → l0 ad' b ls' (lH (i : Int)) → Gy D cy A s.heap ad' V' S' H1 locs1 → W p l e room_1 s m args below meth c H1 locs1 (cells + 1) (slots + 60) Q (F0 m 1167 ls' [])) : W p l e room_1 s m args below meth c H locs cells slots Q (F0 m 369 ls []) := by
  obtain ⟨C, hX, hbl, hbA, hL, hml⟩ := B
  have hV := (jJ_V hJ).1
  refine gx_aload_n C hl.1 dL_law_369 rfl ?_
  refine lr_arg (k := 1) C G hl hX hbl hbA hL (by omega) dL_law_370 dL_law_371 dL_law_373 dL_law_374 dL_law_375 ?_
  refine lr_arg (k := 2) C G hl hX hbl hbA hL (by omega) dL_law_376 dL_law_377 dL_law_379 dL_law_380 dL_law_381 ?_
  refine lr_arg (k := 3) C G hl hX hbl hbA hL (by omega) dL_law_382 dL_law_383 dL_law_385 dL_law_386 dL_law_387 ?_
  refine lr_arg (k := 4) C G hl hX hbl hbA hL (by omega) dL_law_388 dL_law_389 dL_law_391 dL_law_392 dL_law_393 ?_
  refine gx_callVA (na := 4) C G hl.1 (okH hJ (by unfold rng; omega)) hml (c_X11_mask l D cy ad hV (rn_i _) (rn_i _) (rn_i _) (rn_i _) (pr_mask hJ)) rfl (fX11_o hV) (by rw [fX11_c hV]; rfl) (by rw [fX11_c hV]; decide) rfl uw_430 uw_427 uw_428 uw_429 uw_1 (by decide +kernel) ⟨Nat.le_of_ble_eq_true rfl, Nat.le_of_ble_eq_true rfl⟩ ⟨(show cells + 1 ≤ 601024 by omega), (show slots + 13 ≤ 7293033 by omega)⟩ rfl [] okS_0 rfl (Nat.le_of_ble_eq_true rfl) dL_law_394 (kaI (fun x ad1 V1 S1 H locs rx h1 hag hex hl1 G => ?_))
  have hW := fX12_x hex (jJ_V hJ).2.1
  replace hl : l0 ad1 b ls (lH (i : Int)) := ⟨hl1, hl.2⟩
  refine gx_aload_n C hl.1 dL_law_397 rfl ?_
  refine lr_arg (k := 1) C G hl hX hbl hbA hL (by omega) dL_law_398 dL_law_399 dL_law_401 dL_law_402 dL_law_403 ?_
  refine lr_arg (k := 2) C G hl hX hbl hbA hL (by omega) dL_law_404 dL_law_405 dL_law_407 dL_law_408 dL_law_409 ?_
  refine lr_arg (k := 3) C G hl hX hbl hbA hL (by omega) dL_law_410 dL_law_411 dL_law_413 dL_law_414 dL_law_415 ?_
  refine lr_arg (k := 4) C G hl hX hbl hbA hL (by omega) dL_law_416 dL_law_417 dL_law_419 dL_law_420 dL_law_421 ?_
  refine gx_callV (na := 4) C G hl.1 hml (c_X12_mask l D cy ad1 hW (rn_i _) (rn_i _) (rn_i _) (rn_i _) h1) rfl (fX12_o hW) (by rw [fX12_c hW]; rfl) (by rw [fX12_c hW]; decide) rfl uw_1156 uw_1153 uw_1154 uw_1155 uw_9 (by decide +kernel) ⟨Nat.le_of_ble_eq_true rfl, Nat.le_of_ble_eq_true rfl⟩ ⟨(show (cells + 1) ≤ 601024 by omega), (show (slots + 13) ≤ 7293033 by omega)⟩ rfl rfl (hw_le ad1 [.inl x] rfl (Nat.le_of_ble_eq_true rfl)) dL_law_422 (kkI (fun y S2 H locs ry h2 G => ?_))
  refine gx_icmp_eq (tgt := 1167) C rx ry dL_law_425 (by decide) (fun _ => ?_) (fun h => absurd h2.1.symm h)
  exact W.widen (k := cells + 1) (n := slots + 60) (by omega) (by omega) (kk _ _ _ _ _ _ hex (jJ_n h2.2 (by omega) hn) hl G)
theorem lc_swap (B : LC p s m args meth c D cy A b L xs) (G : Gy D cy A s.heap ad V S H locs) (hl : l0 ad b ls (lH (i : Int))) (hJ : jJ 0 V S n) (hi : i + 6 ≤ L) (hn : n + 500 ≤ 300000) (hc : cells + 1 ≤ 601024) (hs : slots + 60 ≤ 7293033)
    (kk : ∀ (ad' : Nat → Nat) (V' : Vt) (S' : Me) (H1 : Heap) (locs1 : List Loc) (ls' : Array Slot), exV V V' → jJ 0 V' S' (n + 500) → l0 ad' b ls' (lH (i : Int)) → Gy D cy A s.heap ad' V' S' H1 locs1 → W p l e room_1 s m args below meth c H1 locs1 (cells + 1) (slots + 60) Q (F0 m 1167 ls' [])) : W p l e room_1 s m args below meth c H locs cells slots Q (F0 m 430 ls []) := by
  obtain ⟨C, hX, hbl, hbA, hL, hml⟩ := B
  have hV := (jJ_V hJ).1
  refine gx_aload_n C hl.1 dL_law_430 rfl ?_
  refine lr_arg (k := 1) C G hl hX hbl hbA hL (by omega) dL_law_431 dL_law_432 dL_law_434 dL_law_435 dL_law_436 ?_
  refine lr_arg (k := 2) C G hl hX hbl hbA hL (by omega) dL_law_437 dL_law_438 dL_law_440 dL_law_441 dL_law_442 ?_
  refine lr_arg (k := 3) C G hl hX hbl hbA hL (by omega) dL_law_443 dL_law_444 dL_law_446 dL_law_447 dL_law_448 ?_
  refine gx_callVA (na := 3) C G hl.1 (okH hJ (by unfold rng; omega)) hml (c_X11_swap l D cy ad hV (rn_i _) (rn_i _) (rn_i _) (pr_swap hJ)) rfl (fX11_o hV) (by rw [fX11_c hV]; rfl) (by rw [fX11_c hV]; decide) rfl uw_456 uw_453 uw_454 uw_455 uw_1 (by decide +kernel) ⟨Nat.le_of_ble_eq_true rfl, Nat.le_of_ble_eq_true rfl⟩ ⟨(show cells + 1 ≤ 601024 by omega), (show slots + 12 ≤ 7293033 by omega)⟩ rfl [] okS_0 rfl (Nat.le_of_ble_eq_true rfl) dL_law_449 (kaI (fun x ad1 V1 S1 H locs rx h1 hag hex hl1 G => ?_))
  have hW := fX12_x hex (jJ_V hJ).2.1
  replace hl : l0 ad1 b ls (lH (i : Int)) := ⟨hl1, hl.2⟩
  refine gx_aload_n C hl.1 dL_law_452 rfl ?_
  refine lr_arg (k := 1) C G hl hX hbl hbA hL (by omega) dL_law_453 dL_law_454 dL_law_456 dL_law_457 dL_law_458 ?_
  refine lr_arg (k := 2) C G hl hX hbl hbA hL (by omega) dL_law_459 dL_law_460 dL_law_462 dL_law_463 dL_law_464 ?_
  refine lr_arg (k := 3) C G hl hX hbl hbA hL (by omega) dL_law_465 dL_law_466 dL_law_468 dL_law_469 dL_law_470 ?_
  refine gx_callV (na := 3) C G hl.1 hml (c_X12_swap l D cy ad1 hW (rn_i _) (rn_i _) (rn_i _) h1) rfl (fX12_o hW) (by rw [fX12_c hW]; rfl) (by rw [fX12_c hW]; decide) rfl uw_1160 uw_1157 uw_1158 uw_1159 uw_9 (by decide +kernel) ⟨Nat.le_of_ble_eq_true rfl, Nat.le_of_ble_eq_true rfl⟩ ⟨(show (cells + 1) ≤ 601024 by omega), (show (slots + 12) ≤ 7293033 by omega)⟩ rfl rfl (hw_le ad1 [.inl x] rfl (Nat.le_of_ble_eq_true rfl)) dL_law_471 (kkI (fun y S2 H locs ry h2 G => ?_))
  refine gx_icmp_eq (tgt := 1167) C rx ry dL_law_474 (by decide) (fun _ => ?_) (fun h => absurd h2.1.symm h)
  exact W.widen (k := cells + 1) (n := slots + 60) (by omega) (by omega) (kk _ _ _ _ _ _ hex (jJ_n h2.2 (by omega) hn) hl G)
theorem lc_fence (B : LC p s m args meth c D cy A b L xs) (G : Gy D cy A s.heap ad V S H locs) (hl : l0 ad b ls (lH (i : Int))) (hJ : jJ 0 V S n) (hi : i + 6 ≤ L) (hn : n + 500 ≤ 300000) (hc : cells + 1 ≤ 601024) (hs : slots + 60 ≤ 7293033)
    (kk : ∀ (ad' : Nat → Nat) (V' : Vt) (S' : Me) (H1 : Heap) (locs1 : List Loc) (ls' : Array Slot), exV V V' → jJ 0 V' S' (n + 500) → l0 ad' b ls' (lH (i : Int)) → Gy D cy A s.heap ad' V' S' H1 locs1 → W p l e room_1 s m args below meth c H1 locs1 (cells + 1) (slots + 60) Q (F0 m 1167 ls' [])) : W p l e room_1 s m args below meth c H locs cells slots Q (F0 m 479 ls []) := by
  obtain ⟨C, hX, hbl, hbA, hL, hml⟩ := B
  have hV := (jJ_V hJ).1
  refine gx_aload_n C hl.1 dL_law_479 rfl ?_
  refine lr_arg (k := 1) C G hl hX hbl hbA hL (by omega) dL_law_480 dL_law_481 dL_law_483 dL_law_484 dL_law_485 ?_
  refine gx_callVA (na := 1) C G hl.1 (okH hJ (by unfold rng; omega)) hml (c_X11_fence l D cy ad hV (rn_i _) (pr_fence hJ)) rfl (fX11_o hV) (by rw [fX11_c hV]; rfl) (by rw [fX11_c hV]; decide) rfl uw_479 uw_476 uw_477 uw_478 uw_1 (by decide +kernel) ⟨Nat.le_of_ble_eq_true rfl, Nat.le_of_ble_eq_true rfl⟩ ⟨(show cells + 1 ≤ 601024 by omega), (show slots + 11 ≤ 7293033 by omega)⟩ rfl [] okS_0 rfl (Nat.le_of_ble_eq_true rfl) dL_law_486 (kaI (fun x ad1 V1 S1 H locs rx h1 hag hex hl1 G => ?_))
  have hW := fX12_x hex (jJ_V hJ).2.1
  replace hl : l0 ad1 b ls (lH (i : Int)) := ⟨hl1, hl.2⟩
  refine gx_aload_n C hl.1 dL_law_489 rfl ?_
  refine lr_arg (k := 1) C G hl hX hbl hbA hL (by omega) dL_law_490 dL_law_491 dL_law_493 dL_law_494 dL_law_495 ?_
  refine gx_callV (na := 1) C G hl.1 hml (c_X12_fence l D cy ad1 hW (rn_i _) h1) rfl (fX12_o hW) (by rw [fX12_c hW]; rfl) (by rw [fX12_c hW]; decide) rfl uw_1164 uw_1161 uw_1162 uw_1163 uw_9 (by decide +kernel) ⟨Nat.le_of_ble_eq_true rfl, Nat.le_of_ble_eq_true rfl⟩ ⟨(show (cells + 1) ≤ 601024 by omega), (show (slots + 11) ≤ 7293033 by omega)⟩ rfl rfl (hw_le ad1 [.inl x] rfl (Nat.le_of_ble_eq_true rfl)) dL_law_496 (kkI (fun y S2 H locs ry h2 G => ?_))
  refine gx_icmp_eq (tgt := 1167) C rx ry dL_law_499 (by decide) (fun _ => ?_) (fun h => absurd h2.1.symm h)
  exact W.widen (k := cells + 1) (n := slots + 60) (by omega) (by omega) (kk _ _ _ _ _ _ hex (jJ_n h2.2 (by omega) hn) hl G)
theorem lc_run (B : LC p s m args meth c D cy A b L xs) (G : Gy D cy A s.heap ad V S H locs) (hl : l0 ad b ls (lH (i : Int))) (hJ : jJ 0 V S n) (hi : i + 6 ≤ L) (hn : n + 500 ≤ 300000) (hc : cells + 1 ≤ 601024) (hs : slots + 60 ≤ 7293033)
    (kk : ∀ (ad' : Nat → Nat) (V' : Vt) (S' : Me) (H1 : Heap) (locs1 : List Loc) (ls' : Array Slot), exV V V' → jJ 0 V' S' (n + 500) → l0 ad' b ls' (lH (i : Int)) → Gy D cy A s.heap ad' V' S' H1 locs1 → W p l e room_1 s m args below meth c H1 locs1 (cells + 1) (slots + 60) Q (F0 m 1167 ls' [])) : W p l e room_1 s m args below meth c H locs cells slots Q (F0 m 504 ls []) := by
  obtain ⟨C, hX, hbl, hbA, hL, hml⟩ := B
  have hV := (jJ_V hJ).1
  refine gx_aload_n C hl.1 dL_law_504 rfl ?_
  refine lr_arg (k := 1) C G hl hX hbl hbA hL (by omega) dL_law_505 dL_law_506 dL_law_508 dL_law_509 dL_law_510 ?_
  refine gx_callV (na := 1) C G hl.1 hml (c_X11_run l D cy ad hV (rn_i _) (pr_run hJ hn)) rfl (fX11_o hV) (by rw [fX11_c hV]; rfl) (by rw [fX11_c hV]; decide) rfl uw_501 uw_498 uw_499 uw_500 uw_1 (by decide +kernel) ⟨Nat.le_of_ble_eq_true rfl, Nat.le_of_ble_eq_true rfl⟩ ⟨(show cells ≤ 601024 by omega), (show slots ≤ 7293033 by omega)⟩ rfl rfl (hw_le ad [] rfl (Nat.le_of_ble_eq_true rfl)) dL_law_511 (kkI (fun x S1 H locs rx h1 G => ?_))
  have hW := (jJ_V hJ).2.1
  refine gx_aload_n C hl.1 dL_law_514 rfl ?_
  refine lr_arg (k := 1) C G hl hX hbl hbA hL (by omega) dL_law_515 dL_law_516 dL_law_518 dL_law_519 dL_law_520 ?_
  refine gx_callV (na := 1) C G hl.1 hml (c_X12_run l D cy ad hW (rn_i _) h1) rfl (fX12_o hW) (by rw [fX12_c hW]; rfl) (by rw [fX12_c hW]; decide) rfl uw_1168 uw_1165 uw_1166 uw_1167 uw_9 (by decide +kernel) ⟨Nat.le_of_ble_eq_true rfl, Nat.le_of_ble_eq_true rfl⟩ ⟨(show cells ≤ 601024 by omega), (show slots ≤ 7293033 by omega)⟩ rfl rfl (hw_le ad [.inl x] rfl (Nat.le_of_ble_eq_true rfl)) dL_law_521 (kkI (fun y S2 H locs ry h2 G => ?_))
  refine gx_icmp_eq (tgt := 1167) C rx ry dL_law_524 (by decide) (fun _ => ?_) (fun h => absurd h2.1.symm h)
  exact W.widen (k := cells + 1) (n := slots + 60) (by omega) (by omega) (kk _ _ _ _ _ _ (exV.rf _) h2.2 hl G)
theorem lc_drain (B : LC p s m args meth c D cy A b L xs) (G : Gy D cy A s.heap ad V S H locs) (hl : l0 ad b ls (lH (i : Int))) (hJ : jJ 0 V S n) (hi : i + 6 ≤ L) (hn : n + 500 ≤ 300000) (hc : cells + 1 ≤ 601024) (hs : slots + 60 ≤ 7293033)
    (kk : ∀ (ad' : Nat → Nat) (V' : Vt) (S' : Me) (H1 : Heap) (locs1 : List Loc) (ls' : Array Slot), exV V V' → jJ 0 V' S' (n + 500) → l0 ad' b ls' (lH (i : Int)) → Gy D cy A s.heap ad' V' S' H1 locs1 → W p l e room_1 s m args below meth c H1 locs1 (cells + 1) (slots + 60) Q (F0 m 1167 ls' [])) : W p l e room_1 s m args below meth c H locs cells slots Q (F0 m 529 ls []) := by
  obtain ⟨C, hX, hbl, hbA, hL, hml⟩ := B
  have hV := (jJ_V hJ).1
  refine gx_aload_n C hl.1 dL_law_529 rfl ?_
  refine lr_arg (k := 1) C G hl hX hbl hbA hL (by omega) dL_law_530 dL_law_531 dL_law_533 dL_law_534 dL_law_535 ?_
  refine gx_callV (na := 1) C G hl.1 hml (c_X11_drain l D cy ad hV (rn_i _) (pr_drain hJ hn)) rfl (fX11_o hV) (by rw [fX11_c hV]; rfl) (by rw [fX11_c hV]; decide) rfl uw_657 uw_654 uw_655 uw_656 uw_1 (by decide +kernel) ⟨Nat.le_of_ble_eq_true rfl, Nat.le_of_ble_eq_true rfl⟩ ⟨(show cells ≤ 601024 by omega), (show slots ≤ 7293033 by omega)⟩ rfl rfl (hw_le ad [] rfl (Nat.le_of_ble_eq_true rfl)) dL_law_536 (kkI (fun x S1 H locs rx h1 G => ?_))
  have hW := (jJ_V hJ).2.1
  refine gx_aload_n C hl.1 dL_law_539 rfl ?_
  refine lr_arg (k := 1) C G hl hX hbl hbA hL (by omega) dL_law_540 dL_law_541 dL_law_543 dL_law_544 dL_law_545 ?_
  refine gx_callV (na := 1) C G hl.1 hml (c_X12_drain l D cy ad hW (rn_i _) h1) rfl (fX12_o hW) (by rw [fX12_c hW]; rfl) (by rw [fX12_c hW]; decide) rfl uw_1267 uw_1264 uw_1265 uw_1266 uw_9 (by decide +kernel) ⟨Nat.le_of_ble_eq_true rfl, Nat.le_of_ble_eq_true rfl⟩ ⟨(show cells ≤ 601024 by omega), (show slots ≤ 7293033 by omega)⟩ rfl rfl (hw_le ad [.inl x] rfl (Nat.le_of_ble_eq_true rfl)) dL_law_546 (kkI (fun y S2 H locs ry h2 G => ?_))
  refine gx_icmp_eq (tgt := 1167) C rx ry dL_law_549 (by decide) (fun _ => ?_) (fun h => absurd h2.1.symm h)
  exact W.widen (k := cells + 1) (n := slots + 60) (by omega) (by omega) (kk _ _ _ _ _ _ (exV.rf _) h2.2 hl G)
theorem lc_next (B : LC p s m args meth c D cy A b L xs) (G : Gy D cy A s.heap ad V S H locs) (hl : l0 ad b ls (lH (i : Int))) (hJ : jJ 0 V S n) (hi : i + 6 ≤ L) (hn : n + 500 ≤ 300000) (hc : cells + 1 ≤ 601024) (hs : slots + 60 ≤ 7293033)
    (kk : ∀ (ad' : Nat → Nat) (V' : Vt) (S' : Me) (H1 : Heap) (locs1 : List Loc) (ls' : Array Slot), exV V V' → jJ 0 V' S' (n + 500) → l0 ad' b ls' (lH (i : Int)) → Gy D cy A s.heap ad' V' S' H1 locs1 → W p l e room_1 s m args below meth c H1 locs1 (cells + 1) (slots + 60) Q (F0 m 1167 ls' [])) : W p l e room_1 s m args below meth c H locs cells slots Q (F0 m 554 ls []) := by
  obtain ⟨C, hX, hbl, hbA, hL, hml⟩ := B
  have hV := (jJ_V hJ).1
  refine gx_aload_n C hl.1 dL_law_554 rfl ?_
  refine gx_callV (na := 0) C G hl.1 hml (c_X11_next l D cy ad hV  (pr_next hJ)) rfl (fX11_o hV) (by rw [fX11_c hV]; rfl) (by rw [fX11_c hV]; decide) rfl uw_661 uw_658 uw_659 uw_660 uw_1 (by decide +kernel) ⟨Nat.le_of_ble_eq_true rfl, Nat.le_of_ble_eq_true rfl⟩ ⟨(show cells ≤ 601024 by omega), (show slots ≤ 7293033 by omega)⟩ rfl rfl (hw_le ad [] rfl (Nat.le_of_ble_eq_true rfl)) dL_law_555 (kkI (fun x S1 H locs rx h1 G => ?_))
  have hW := (jJ_V hJ).2.1
  refine gx_aload_n C hl.1 dL_law_558 rfl ?_
  refine gx_callV (na := 0) C G hl.1 hml (c_X12_next l D cy ad hW  h1) rfl (fX12_o hW) (by rw [fX12_c hW]; rfl) (by rw [fX12_c hW]; decide) rfl uw_1271 uw_1268 uw_1269 uw_1270 uw_9 (by decide +kernel) ⟨Nat.le_of_ble_eq_true rfl, Nat.le_of_ble_eq_true rfl⟩ ⟨(show cells ≤ 601024 by omega), (show slots ≤ 7293033 by omega)⟩ rfl rfl (hw_le ad [.inl x] rfl (Nat.le_of_ble_eq_true rfl)) dL_law_559 (kkI (fun y S2 H locs ry h2 G => ?_))
  refine gx_icmp_eq (tgt := 1167) C rx ry dL_law_562 (by decide) (fun _ => ?_) (fun h => absurd h2.1.symm h)
  exact W.widen (k := cells + 1) (n := slots + 60) (by omega) (by omega) (kk _ _ _ _ _ _ (exV.rf _) (jJ_n h2.2 (by omega) hn) hl G)
theorem lc_look (B : LC p s m args meth c D cy A b L xs) (G : Gy D cy A s.heap ad V S H locs) (hl : l0 ad b ls (lH (i : Int))) (hJ : jJ 0 V S n) (hi : i + 6 ≤ L) (hn : n + 500 ≤ 300000) (hc : cells + 1 ≤ 601024) (hs : slots + 60 ≤ 7293033)
    (kk : ∀ (ad' : Nat → Nat) (V' : Vt) (S' : Me) (H1 : Heap) (locs1 : List Loc) (ls' : Array Slot), exV V V' → jJ 0 V' S' (n + 500) → l0 ad' b ls' (lH (i : Int)) → Gy D cy A s.heap ad' V' S' H1 locs1 → W p l e room_1 s m args below meth c H1 locs1 (cells + 1) (slots + 60) Q (F0 m 1167 ls' [])) : W p l e room_1 s m args below meth c H locs cells slots Q (F0 m 567 ls []) := by
  obtain ⟨C, hX, hbl, hbA, hL, hml⟩ := B
  have hV := (jJ_V hJ).1
  refine gx_aload_n C hl.1 dL_law_567 rfl ?_
  refine lr_arg (k := 1) C G hl hX hbl hbA hL (by omega) dL_law_568 dL_law_569 dL_law_571 dL_law_572 dL_law_573 ?_
  refine lr_arg (k := 2) C G hl hX hbl hbA hL (by omega) dL_law_574 dL_law_575 dL_law_577 dL_law_578 dL_law_579 ?_
  refine gx_callV (na := 2) C G hl.1 hml (c_X11_look l D cy ad hV (rn_i _) (rn_i _) (pr_look hJ)) rfl (fX11_o hV) (by rw [fX11_c hV]; rfl) (by rw [fX11_c hV]; decide) rfl uw_665 uw_662 uw_663 uw_664 uw_1 (by decide +kernel) ⟨Nat.le_of_ble_eq_true rfl, Nat.le_of_ble_eq_true rfl⟩ ⟨(show cells ≤ 601024 by omega), (show slots ≤ 7293033 by omega)⟩ rfl rfl (hw_le ad [] rfl (Nat.le_of_ble_eq_true rfl)) dL_law_580 (kkI (fun x S1 H locs rx h1 G => ?_))
  have hW := (jJ_V hJ).2.1
  refine gx_aload_n C hl.1 dL_law_583 rfl ?_
  refine lr_arg (k := 1) C G hl hX hbl hbA hL (by omega) dL_law_584 dL_law_585 dL_law_587 dL_law_588 dL_law_589 ?_
  refine lr_arg (k := 2) C G hl hX hbl hbA hL (by omega) dL_law_590 dL_law_591 dL_law_593 dL_law_594 dL_law_595 ?_
  refine gx_callV (na := 2) C G hl.1 hml (c_X12_look l D cy ad hW (rn_i _) (rn_i _) h1) rfl (fX12_o hW) (by rw [fX12_c hW]; rfl) (by rw [fX12_c hW]; decide) rfl uw_1275 uw_1272 uw_1273 uw_1274 uw_9 (by decide +kernel) ⟨Nat.le_of_ble_eq_true rfl, Nat.le_of_ble_eq_true rfl⟩ ⟨(show cells ≤ 601024 by omega), (show slots ≤ 7293033 by omega)⟩ rfl rfl (hw_le ad [.inl x] rfl (Nat.le_of_ble_eq_true rfl)) dL_law_596 (kkI (fun y S2 H locs ry h2 G => ?_))
  refine gx_icmp_eq (tgt := 1167) C rx ry dL_law_599 (by decide) (fun _ => ?_) (fun h => absurd h2.1.symm h)
  exact W.widen (k := cells + 1) (n := slots + 60) (by omega) (by omega) (kk _ _ _ _ _ _ (exV.rf _) (jJ_n h2.2 (by omega) hn) hl G)
theorem lc_at (B : LC p s m args meth c D cy A b L xs) (G : Gy D cy A s.heap ad V S H locs) (hl : l0 ad b ls (lH (i : Int))) (hJ : jJ 0 V S n) (hi : i + 6 ≤ L) (hn : n + 500 ≤ 300000) (hc : cells + 1 ≤ 601024) (hs : slots + 60 ≤ 7293033)
    (kk : ∀ (ad' : Nat → Nat) (V' : Vt) (S' : Me) (H1 : Heap) (locs1 : List Loc) (ls' : Array Slot), exV V V' → jJ 0 V' S' (n + 500) → l0 ad' b ls' (lH (i : Int)) → Gy D cy A s.heap ad' V' S' H1 locs1 → W p l e room_1 s m args below meth c H1 locs1 (cells + 1) (slots + 60) Q (F0 m 1167 ls' [])) : W p l e room_1 s m args below meth c H locs cells slots Q (F0 m 604 ls []) := by
  obtain ⟨C, hX, hbl, hbA, hL, hml⟩ := B
  have hV := (jJ_V hJ).1
  refine gx_aload_n C hl.1 dL_law_604 rfl ?_
  refine lr_arg (k := 1) C G hl hX hbl hbA hL (by omega) dL_law_605 dL_law_606 dL_law_608 dL_law_609 dL_law_610 ?_
  refine gx_callV (na := 1) C G hl.1 hml (c_X11_at l D cy ad hV (rn_i _) (pr_at hJ)) rfl (fX11_o hV) (by rw [fX11_c hV]; rfl) (by rw [fX11_c hV]; decide) rfl uw_674 uw_671 uw_672 uw_673 uw_1 (by decide +kernel) ⟨Nat.le_of_ble_eq_true rfl, Nat.le_of_ble_eq_true rfl⟩ ⟨(show cells ≤ 601024 by omega), (show slots ≤ 7293033 by omega)⟩ rfl rfl (hw_le ad [] rfl (Nat.le_of_ble_eq_true rfl)) dL_law_611 (kkI (fun x S1 H locs rx h1 G => ?_))
  have hW := (jJ_V hJ).2.1
  refine gx_aload_n C hl.1 dL_law_614 rfl ?_
  refine lr_arg (k := 1) C G hl hX hbl hbA hL (by omega) dL_law_615 dL_law_616 dL_law_618 dL_law_619 dL_law_620 ?_
  refine gx_callV (na := 1) C G hl.1 hml (c_X12_at l D cy ad hW (rn_i _) h1) rfl (fX12_o hW) (by rw [fX12_c hW]; rfl) (by rw [fX12_c hW]; decide) rfl uw_1284 uw_1281 uw_1282 uw_1283 uw_9 (by decide +kernel) ⟨Nat.le_of_ble_eq_true rfl, Nat.le_of_ble_eq_true rfl⟩ ⟨(show cells ≤ 601024 by omega), (show slots ≤ 7293033 by omega)⟩ rfl rfl (hw_le ad [.inl x] rfl (Nat.le_of_ble_eq_true rfl)) dL_law_621 (kkI (fun y S2 H locs ry h2 G => ?_))
  refine gx_icmp_eq (tgt := 1167) C rx ry dL_law_624 (by decide) (fun _ => ?_) (fun h => absurd h2.1.symm h)
  exact W.widen (k := cells + 1) (n := slots + 60) (by omega) (by omega) (kk _ _ _ _ _ _ (exV.rf _) (jJ_n h2.2 (by omega) hn) hl G)
theorem lc_soonest (B : LC p s m args meth c D cy A b L xs) (G : Gy D cy A s.heap ad V S H locs) (hl : l0 ad b ls (lH (i : Int))) (hJ : jJ 0 V S n) (hi : i + 6 ≤ L) (hn : n + 500 ≤ 300000) (hc : cells + 1 ≤ 601024) (hs : slots + 60 ≤ 7293033)
    (kk : ∀ (ad' : Nat → Nat) (V' : Vt) (S' : Me) (H1 : Heap) (locs1 : List Loc) (ls' : Array Slot), exV V V' → jJ 0 V' S' (n + 500) → l0 ad' b ls' (lH (i : Int)) → Gy D cy A s.heap ad' V' S' H1 locs1 → W p l e room_1 s m args below meth c H1 locs1 (cells + 1) (slots + 60) Q (F0 m 1167 ls' [])) : W p l e room_1 s m args below meth c H locs cells slots Q (F0 m 629 ls []) := by
  obtain ⟨C, hX, hbl, hbA, hL, hml⟩ := B
  have hV := (jJ_V hJ).1
  refine gx_aload_n C hl.1 dL_law_629 rfl ?_
  refine lr_arg (k := 1) C G hl hX hbl hbA hL (by omega) dL_law_630 dL_law_631 dL_law_633 dL_law_634 dL_law_635 ?_
  refine lr_arg (k := 2) C G hl hX hbl hbA hL (by omega) dL_law_636 dL_law_637 dL_law_639 dL_law_640 dL_law_641 ?_
  refine gx_callV (na := 2) C G hl.1 hml (c_X11_soonest l D cy ad hV (rn_i _) (rn_i _) (pr_soonest hJ)) rfl (fX11_o hV) (by rw [fX11_c hV]; rfl) (by rw [fX11_c hV]; decide) rfl uw_678 uw_675 uw_676 uw_677 uw_1 (by decide +kernel) ⟨Nat.le_of_ble_eq_true rfl, Nat.le_of_ble_eq_true rfl⟩ ⟨(show cells ≤ 601024 by omega), (show slots ≤ 7293033 by omega)⟩ rfl rfl (hw_le ad [] rfl (Nat.le_of_ble_eq_true rfl)) dL_law_642 (kkI (fun x S1 H locs rx h1 G => ?_))
  have hW := (jJ_V hJ).2.1
  refine gx_aload_n C hl.1 dL_law_645 rfl ?_
  refine lr_arg (k := 1) C G hl hX hbl hbA hL (by omega) dL_law_646 dL_law_647 dL_law_649 dL_law_650 dL_law_651 ?_
  refine lr_arg (k := 2) C G hl hX hbl hbA hL (by omega) dL_law_652 dL_law_653 dL_law_655 dL_law_656 dL_law_657 ?_
  refine gx_callV (na := 2) C G hl.1 hml (c_X12_soonest l D cy ad hW (rn_i _) (rn_i _) h1) rfl (fX12_o hW) (by rw [fX12_c hW]; rfl) (by rw [fX12_c hW]; decide) rfl uw_1288 uw_1285 uw_1286 uw_1287 uw_9 (by decide +kernel) ⟨Nat.le_of_ble_eq_true rfl, Nat.le_of_ble_eq_true rfl⟩ ⟨(show cells ≤ 601024 by omega), (show slots ≤ 7293033 by omega)⟩ rfl rfl (hw_le ad [.inl x] rfl (Nat.le_of_ble_eq_true rfl)) dL_law_658 (kkI (fun y S2 H locs ry h2 G => ?_))
  refine gx_icmp_eq (tgt := 1167) C rx ry dL_law_661 (by decide) (fun _ => ?_) (fun h => absurd h2.1.symm h)
  exact W.widen (k := cells + 1) (n := slots + 60) (by omega) (by omega) (kk _ _ _ _ _ _ (exV.rf _) (jJ_n h2.2 (by omega) hn) hl G)
theorem lc_row (B : LC p s m args meth c D cy A b L xs) (G : Gy D cy A s.heap ad V S H locs) (hl : l0 ad b ls (lH (i : Int))) (hJ : jJ 0 V S n) (hi : i + 6 ≤ L) (hn : n + 500 ≤ 300000) (hc : cells + 1 ≤ 601024) (hs : slots + 60 ≤ 7293033)
    (kk : ∀ (ad' : Nat → Nat) (V' : Vt) (S' : Me) (H1 : Heap) (locs1 : List Loc) (ls' : Array Slot), exV V V' → jJ 0 V' S' (n + 500) → l0 ad' b ls' (lH (i : Int)) → Gy D cy A s.heap ad' V' S' H1 locs1 → W p l e room_1 s m args below meth c H1 locs1 (cells + 1) (slots + 60) Q (F0 m 1167 ls' [])) : W p l e room_1 s m args below meth c H locs cells slots Q (F0 m 666 ls []) := by
  obtain ⟨C, hX, hbl, hbA, hL, hml⟩ := B
  have hV := (jJ_V hJ).1
  refine gx_aload_n C hl.1 dL_law_666 rfl ?_
  refine lr_arg (k := 1) C G hl hX hbl hbA hL (by omega) dL_law_667 dL_law_668 dL_law_670 dL_law_671 dL_law_672 ?_
  refine gx_callV (na := 1) C G hl.1 hml (c_X11_row l D cy ad hV (rn_i _) (pr_row hJ)) rfl (fX11_o hV) (by rw [fX11_c hV]; rfl) (by rw [fX11_c hV]; decide) rfl uw_686 uw_683 uw_684 uw_685 uw_1 (by decide +kernel) ⟨Nat.le_of_ble_eq_true rfl, Nat.le_of_ble_eq_true rfl⟩ ⟨(show cells ≤ 601024 by omega), (show slots ≤ 7293033 by omega)⟩ rfl rfl (hw_le ad [] rfl (Nat.le_of_ble_eq_true rfl)) dL_law_673 (kkI (fun x S1 H locs rx h1 G => ?_))
  have hW := (jJ_V hJ).2.1
  refine gx_aload_n C hl.1 dL_law_676 rfl ?_
  refine lr_arg (k := 1) C G hl hX hbl hbA hL (by omega) dL_law_677 dL_law_678 dL_law_680 dL_law_681 dL_law_682 ?_
  refine gx_callV (na := 1) C G hl.1 hml (c_X12_row l D cy ad hW (rn_i _) h1) rfl (fX12_o hW) (by rw [fX12_c hW]; rfl) (by rw [fX12_c hW]; decide) rfl uw_1293 uw_1290 uw_1291 uw_1292 uw_9 (by decide +kernel) ⟨Nat.le_of_ble_eq_true rfl, Nat.le_of_ble_eq_true rfl⟩ ⟨(show cells ≤ 601024 by omega), (show slots ≤ 7293033 by omega)⟩ rfl rfl (hw_le ad [.inl x] rfl (Nat.le_of_ble_eq_true rfl)) dL_law_683 (kkI (fun y S2 H locs ry h2 G => ?_))
  refine gx_icmp_eq (tgt := 1167) C rx ry dL_law_686 (by decide) (fun _ => ?_) (fun h => absurd h2.1.symm h)
  exact W.widen (k := cells + 1) (n := slots + 60) (by omega) (by omega) (kk _ _ _ _ _ _ (exV.rf _) (jJ_n h2.2 (by omega) hn) hl G)
theorem lc_octet (B : LC p s m args meth c D cy A b L xs) (G : Gy D cy A s.heap ad V S H locs) (hl : l0 ad b ls (lH (i : Int))) (hJ : jJ 0 V S n) (hi : i + 6 ≤ L) (hn : n + 500 ≤ 300000) (hc : cells + 1 ≤ 601024) (hs : slots + 60 ≤ 7293033)
    (kk : ∀ (ad' : Nat → Nat) (V' : Vt) (S' : Me) (H1 : Heap) (locs1 : List Loc) (ls' : Array Slot), exV V V' → jJ 0 V' S' (n + 500) → l0 ad' b ls' (lH (i : Int)) → Gy D cy A s.heap ad' V' S' H1 locs1 → W p l e room_1 s m args below meth c H1 locs1 (cells + 1) (slots + 60) Q (F0 m 1167 ls' [])) : W p l e room_1 s m args below meth c H locs cells slots Q (F0 m 691 ls []) := by
  obtain ⟨C, hX, hbl, hbA, hL, hml⟩ := B
  have hV := (jJ_V hJ).1
  refine gx_aload_n C hl.1 dL_law_691 rfl ?_
  refine lr_arg (k := 1) C G hl hX hbl hbA hL (by omega) dL_law_692 dL_law_693 dL_law_695 dL_law_696 dL_law_697 ?_
  refine gx_callV (na := 1) C G hl.1 hml (c_X11_octet l D cy ad hV (rn_i _) (pr_octet hJ)) rfl (fX11_o hV) (by rw [fX11_c hV]; rfl) (by rw [fX11_c hV]; decide) rfl uw_690 uw_687 uw_688 uw_689 uw_1 (by decide +kernel) ⟨Nat.le_of_ble_eq_true rfl, Nat.le_of_ble_eq_true rfl⟩ ⟨(show cells ≤ 601024 by omega), (show slots ≤ 7293033 by omega)⟩ rfl rfl (hw_le ad [] rfl (Nat.le_of_ble_eq_true rfl)) dL_law_698 (kkI (fun x S1 H locs rx h1 G => ?_))
  have hW := (jJ_V hJ).2.1
  refine gx_aload_n C hl.1 dL_law_701 rfl ?_
  refine lr_arg (k := 1) C G hl hX hbl hbA hL (by omega) dL_law_702 dL_law_703 dL_law_705 dL_law_706 dL_law_707 ?_
  refine gx_callV (na := 1) C G hl.1 hml (c_X12_octet l D cy ad hW (rn_i _) h1) rfl (fX12_o hW) (by rw [fX12_c hW]; rfl) (by rw [fX12_c hW]; decide) rfl uw_1297 uw_1294 uw_1295 uw_1296 uw_9 (by decide +kernel) ⟨Nat.le_of_ble_eq_true rfl, Nat.le_of_ble_eq_true rfl⟩ ⟨(show cells ≤ 601024 by omega), (show slots ≤ 7293033 by omega)⟩ rfl rfl (hw_le ad [.inl x] rfl (Nat.le_of_ble_eq_true rfl)) dL_law_708 (kkI (fun y S2 H locs ry h2 G => ?_))
  refine gx_icmp_eq (tgt := 1167) C rx ry dL_law_711 (by decide) (fun _ => ?_) (fun h => absurd h2.1.symm h)
  exact W.widen (k := cells + 1) (n := slots + 60) (by omega) (by omega) (kk _ _ _ _ _ _ (exV.rf _) (jJ_n h2.2 (by omega) hn) hl G)
theorem lc_log (B : LC p s m args meth c D cy A b L xs) (G : Gy D cy A s.heap ad V S H locs) (hl : l0 ad b ls (lH (i : Int))) (hJ : jJ 0 V S n) (hi : i + 6 ≤ L) (hn : n + 500 ≤ 300000) (hc : cells + 1 ≤ 601024) (hs : slots + 60 ≤ 7293033)
    (kk : ∀ (ad' : Nat → Nat) (V' : Vt) (S' : Me) (H1 : Heap) (locs1 : List Loc) (ls' : Array Slot), exV V V' → jJ 0 V' S' (n + 500) → l0 ad' b ls' (lH (i : Int)) → Gy D cy A s.heap ad' V' S' H1 locs1 → W p l e room_1 s m args below meth c H1 locs1 (cells + 1) (slots + 60) Q (F0 m 1167 ls' [])) : W p l e room_1 s m args below meth c H locs cells slots Q (F0 m 716 ls []) := by
  obtain ⟨C, hX, hbl, hbA, hL, hml⟩ := B
  have hV := (jJ_V hJ).1
  refine gx_aload_n C hl.1 dL_law_716 rfl ?_
  refine lr_arg (k := 1) C G hl hX hbl hbA hL (by omega) dL_law_717 dL_law_718 dL_law_720 dL_law_721 dL_law_722 ?_
  refine lr_arg (k := 2) C G hl hX hbl hbA hL (by omega) dL_law_723 dL_law_724 dL_law_726 dL_law_727 dL_law_728 ?_
  refine gx_callV (na := 2) C G hl.1 hml (c_X11_log l D cy ad hV (rn_i _) (rn_i _) (pr_log hJ)) rfl (fX11_o hV) (by rw [fX11_c hV]; rfl) (by rw [fX11_c hV]; decide) rfl uw_694 uw_691 uw_692 uw_693 uw_1 (by decide +kernel) ⟨Nat.le_of_ble_eq_true rfl, Nat.le_of_ble_eq_true rfl⟩ ⟨(show cells ≤ 601024 by omega), (show slots ≤ 7293033 by omega)⟩ rfl rfl (hw_le ad [] rfl (Nat.le_of_ble_eq_true rfl)) dL_law_729 (kkI (fun x S1 H locs rx h1 G => ?_))
  have hW := (jJ_V hJ).2.1
  refine gx_aload_n C hl.1 dL_law_732 rfl ?_
  refine lr_arg (k := 1) C G hl hX hbl hbA hL (by omega) dL_law_733 dL_law_734 dL_law_736 dL_law_737 dL_law_738 ?_
  refine lr_arg (k := 2) C G hl hX hbl hbA hL (by omega) dL_law_739 dL_law_740 dL_law_742 dL_law_743 dL_law_744 ?_
  refine gx_callV (na := 2) C G hl.1 hml (c_X12_log l D cy ad hW (rn_i _) (rn_i _) h1) rfl (fX12_o hW) (by rw [fX12_c hW]; rfl) (by rw [fX12_c hW]; decide) rfl uw_1301 uw_1298 uw_1299 uw_1300 uw_9 (by decide +kernel) ⟨Nat.le_of_ble_eq_true rfl, Nat.le_of_ble_eq_true rfl⟩ ⟨(show cells ≤ 601024 by omega), (show slots ≤ 7293033 by omega)⟩ rfl rfl (hw_le ad [.inl x] rfl (Nat.le_of_ble_eq_true rfl)) dL_law_745 (kkI (fun y S2 H locs ry h2 G => ?_))
  refine gx_icmp_eq (tgt := 1167) C rx ry dL_law_748 (by decide) (fun _ => ?_) (fun h => absurd h2.1.symm h)
  exact W.widen (k := cells + 1) (n := slots + 60) (by omega) (by omega) (kk _ _ _ _ _ _ (exV.rf _) (jJ_n h2.2 (by omega) hn) hl G)
theorem lc_forge (B : LC p s m args meth c D cy A b L xs) (G : Gy D cy A s.heap ad V S H locs) (hl : l0 ad b ls (lH (i : Int))) (hJ : jJ 0 V S n) (hi : i + 6 ≤ L) (hn : n + 500 ≤ 300000) (hc : cells + 1 ≤ 601024) (hs : slots + 60 ≤ 7293033)
    (kk : ∀ (ad' : Nat → Nat) (V' : Vt) (S' : Me) (H1 : Heap) (locs1 : List Loc) (ls' : Array Slot), exV V V' → jJ 0 V' S' (n + 500) → l0 ad' b ls' (lH (i : Int)) → Gy D cy A s.heap ad' V' S' H1 locs1 → W p l e room_1 s m args below meth c H1 locs1 (cells + 1) (slots + 60) Q (F0 m 1167 ls' [])) : W p l e room_1 s m args below meth c H locs cells slots Q (F0 m 753 ls []) := by
  obtain ⟨C, hX, hbl, hbA, hL, hml⟩ := B
  have hV := (jJ_V hJ).1
  refine gx_aload_n C hl.1 dL_law_753 rfl ?_
  refine lr_arg (k := 1) C G hl hX hbl hbA hL (by omega) dL_law_754 dL_law_755 dL_law_757 dL_law_758 dL_law_759 ?_
  refine lr_arg (k := 2) C G hl hX hbl hbA hL (by omega) dL_law_760 dL_law_761 dL_law_763 dL_law_764 dL_law_765 ?_
  refine gx_callV (na := 2) C G hl.1 hml (c_X11_forge l D cy ad hV (rn_i _) (rn_i _) (pr_forge hJ)) rfl (fX11_o hV) (by rw [fX11_c hV]; rfl) (by rw [fX11_c hV]; decide) rfl uw_702 uw_699 uw_700 uw_701 uw_1 (by decide +kernel) ⟨Nat.le_of_ble_eq_true rfl, Nat.le_of_ble_eq_true rfl⟩ ⟨(show cells ≤ 601024 by omega), (show slots ≤ 7293033 by omega)⟩ rfl rfl (hw_le ad [] rfl (Nat.le_of_ble_eq_true rfl)) dL_law_766 (kkI (fun x S1 H locs rx h1 G => ?_))
  have hW := (jJ_V hJ).2.1
  refine gx_aload_n C hl.1 dL_law_769 rfl ?_
  refine lr_arg (k := 1) C G hl hX hbl hbA hL (by omega) dL_law_770 dL_law_771 dL_law_773 dL_law_774 dL_law_775 ?_
  refine lr_arg (k := 2) C G hl hX hbl hbA hL (by omega) dL_law_776 dL_law_777 dL_law_779 dL_law_780 dL_law_781 ?_
  refine gx_callV (na := 2) C G hl.1 hml (c_X12_forge l D cy ad hW (rn_i _) (rn_i _) h1) rfl (fX12_o hW) (by rw [fX12_c hW]; rfl) (by rw [fX12_c hW]; decide) rfl uw_1309 uw_1306 uw_1307 uw_1308 uw_9 (by decide +kernel) ⟨Nat.le_of_ble_eq_true rfl, Nat.le_of_ble_eq_true rfl⟩ ⟨(show cells ≤ 601024 by omega), (show slots ≤ 7293033 by omega)⟩ rfl rfl (hw_le ad [.inl x] rfl (Nat.le_of_ble_eq_true rfl)) dL_law_782 (kkI (fun y S2 H locs ry h2 G => ?_))
  refine gx_icmp_eq (tgt := 1167) C rx ry dL_law_785 (by decide) (fun _ => ?_) (fun h => absurd h2.1.symm h)
  exact W.widen (k := cells + 1) (n := slots + 60) (by omega) (by omega) (kk _ _ _ _ _ _ (exV.rf _) (jJ_n h2.2 (by omega) hn) hl G)
theorem lc_check (B : LC p s m args meth c D cy A b L xs) (G : Gy D cy A s.heap ad V S H locs) (hl : l0 ad b ls (lH (i : Int))) (hJ : jJ 0 V S n) (hi : i + 6 ≤ L) (hn : n + 500 ≤ 300000) (hc : cells + 1 ≤ 601024) (hs : slots + 60 ≤ 7293033)
    (kk : ∀ (ad' : Nat → Nat) (V' : Vt) (S' : Me) (H1 : Heap) (locs1 : List Loc) (ls' : Array Slot), exV V V' → jJ 0 V' S' (n + 500) → l0 ad' b ls' (lH (i : Int)) → Gy D cy A s.heap ad' V' S' H1 locs1 → W p l e room_1 s m args below meth c H1 locs1 (cells + 1) (slots + 60) Q (F0 m 1167 ls' [])) : W p l e room_1 s m args below meth c H locs cells slots Q (F0 m 790 ls []) := by
  obtain ⟨C, hX, hbl, hbA, hL, hml⟩ := B
  have hV := (jJ_V hJ).1
  refine gx_aload_n C hl.1 dL_law_790 rfl ?_
  refine gx_callV (na := 0) C G hl.1 hml (c_X11_check l D cy ad hV  (pr_check hJ)) rfl (fX11_o hV) (by rw [fX11_c hV]; rfl) (by rw [fX11_c hV]; decide) rfl uw_707 uw_704 uw_705 uw_706 uw_1 (by decide +kernel) ⟨Nat.le_of_ble_eq_true rfl, Nat.le_of_ble_eq_true rfl⟩ ⟨(show cells ≤ 601024 by omega), (show slots ≤ 7293033 by omega)⟩ rfl rfl (hw_le ad [] rfl (Nat.le_of_ble_eq_true rfl)) dL_law_791 (kkI (fun x S1 H locs rx h1 G => ?_))
  have hW := (jJ_V hJ).2.1
  refine gx_aload_n C hl.1 dL_law_794 rfl ?_
  refine gx_callV (na := 0) C G hl.1 hml (c_X12_check l D cy ad hW  h1) rfl (fX12_o hW) (by rw [fX12_c hW]; rfl) (by rw [fX12_c hW]; decide) rfl uw_1314 uw_1311 uw_1312 uw_1313 uw_9 (by decide +kernel) ⟨Nat.le_of_ble_eq_true rfl, Nat.le_of_ble_eq_true rfl⟩ ⟨(show cells ≤ 601024 by omega), (show slots ≤ 7293033 by omega)⟩ rfl rfl (hw_le ad [.inl x] rfl (Nat.le_of_ble_eq_true rfl)) dL_law_795 (kkI (fun y S2 H locs ry h2 G => ?_))
  refine gx_icmp_eq (tgt := 1167) C rx ry dL_law_798 (by decide) (fun _ => ?_) (fun h => absurd h2.1.symm h)
  exact W.widen (k := cells + 1) (n := slots + 60) (by omega) (by omega) (kk _ _ _ _ _ _ (exV.rf _) (jJ_n h2.2 (by omega) hn) hl G)
theorem lc_broken (B : LC p s m args meth c D cy A b L xs) (G : Gy D cy A s.heap ad V S H locs) (hl : l0 ad b ls (lH (i : Int))) (hJ : jJ 0 V S n) (hi : i + 6 ≤ L) (hn : n + 500 ≤ 300000) (hc : cells + 1 ≤ 601024) (hs : slots + 60 ≤ 7293033)
    (kk : ∀ (ad' : Nat → Nat) (V' : Vt) (S' : Me) (H1 : Heap) (locs1 : List Loc) (ls' : Array Slot), exV V V' → jJ 0 V' S' (n + 500) → l0 ad' b ls' (lH (i : Int)) → Gy D cy A s.heap ad' V' S' H1 locs1 → W p l e room_1 s m args below meth c H1 locs1 (cells + 1) (slots + 60) Q (F0 m 1167 ls' [])) : W p l e room_1 s m args below meth c H locs cells slots Q (F0 m 803 ls []) := by
  obtain ⟨C, hX, hbl, hbA, hL, hml⟩ := B
  have hV := (jJ_V hJ).1
  refine gx_aload_n C hl.1 dL_law_803 rfl ?_
  refine gx_callV (na := 0) C G hl.1 hml (c_X11_broken l D cy ad hV  (pr_broken hJ)) rfl (fX11_o hV) (by rw [fX11_c hV]; rfl) (by rw [fX11_c hV]; decide) rfl uw_721 uw_718 uw_719 uw_720 uw_1 (by decide +kernel) ⟨Nat.le_of_ble_eq_true rfl, Nat.le_of_ble_eq_true rfl⟩ ⟨(show cells ≤ 601024 by omega), (show slots ≤ 7293033 by omega)⟩ rfl rfl (hw_le ad [] rfl (Nat.le_of_ble_eq_true rfl)) dL_law_804 (kkI (fun x S1 H locs rx h1 G => ?_))
  have hW := (jJ_V hJ).2.1
  refine gx_aload_n C hl.1 dL_law_807 rfl ?_
  refine gx_callV (na := 0) C G hl.1 hml (c_X12_broken l D cy ad hW  h1) rfl (fX12_o hW) (by rw [fX12_c hW]; rfl) (by rw [fX12_c hW]; decide) rfl uw_1322 uw_1319 uw_1320 uw_1321 uw_9 (by decide +kernel) ⟨Nat.le_of_ble_eq_true rfl, Nat.le_of_ble_eq_true rfl⟩ ⟨(show cells ≤ 601024 by omega), (show slots ≤ 7293033 by omega)⟩ rfl rfl (hw_le ad [.inl x] rfl (Nat.le_of_ble_eq_true rfl)) dL_law_808 (kkI (fun y S2 H locs ry h2 G => ?_))
  refine gx_icmp_eq (tgt := 1167) C rx ry dL_law_811 (by decide) (fun _ => ?_) (fun h => absurd h2.1.symm h)
  exact W.widen (k := cells + 1) (n := slots + 60) (by omega) (by omega) (kk _ _ _ _ _ _ (exV.rf _) (jJ_n h2.2 (by omega) hn) hl G)
theorem lc_worst (B : LC p s m args meth c D cy A b L xs) (G : Gy D cy A s.heap ad V S H locs) (hl : l0 ad b ls (lH (i : Int))) (hJ : jJ 0 V S n) (hi : i + 6 ≤ L) (hn : n + 500 ≤ 300000) (hc : cells + 1 ≤ 601024) (hs : slots + 60 ≤ 7293033)
    (kk : ∀ (ad' : Nat → Nat) (V' : Vt) (S' : Me) (H1 : Heap) (locs1 : List Loc) (ls' : Array Slot), exV V V' → jJ 0 V' S' (n + 500) → l0 ad' b ls' (lH (i : Int)) → Gy D cy A s.heap ad' V' S' H1 locs1 → W p l e room_1 s m args below meth c H1 locs1 (cells + 1) (slots + 60) Q (F0 m 1167 ls' [])) : W p l e room_1 s m args below meth c H locs cells slots Q (F0 m 816 ls []) := by
  obtain ⟨C, hX, hbl, hbA, hL, hml⟩ := B
  have hV := (jJ_V hJ).1
  refine gx_aload_n C hl.1 dL_law_816 rfl ?_
  refine lr_arg (k := 1) C G hl hX hbl hbA hL (by omega) dL_law_817 dL_law_818 dL_law_820 dL_law_821 dL_law_822 ?_
  refine gx_callV (na := 1) C G hl.1 hml (c_X11_worst l D cy ad hV (rn_i _) (pr_worst hJ)) rfl (fX11_o hV) (by rw [fX11_c hV]; rfl) (by rw [fX11_c hV]; decide) rfl uw_725 uw_722 uw_723 uw_724 uw_1 (by decide +kernel) ⟨Nat.le_of_ble_eq_true rfl, Nat.le_of_ble_eq_true rfl⟩ ⟨(show cells ≤ 601024 by omega), (show slots ≤ 7293033 by omega)⟩ rfl rfl (hw_le ad [] rfl (Nat.le_of_ble_eq_true rfl)) dL_law_823 (kkI (fun x S1 H locs rx h1 G => ?_))
  have hW := (jJ_V hJ).2.1
  refine gx_aload_n C hl.1 dL_law_826 rfl ?_
  refine lr_arg (k := 1) C G hl hX hbl hbA hL (by omega) dL_law_827 dL_law_828 dL_law_830 dL_law_831 dL_law_832 ?_
  refine gx_callV (na := 1) C G hl.1 hml (c_X12_worst l D cy ad hW (rn_i _) h1) rfl (fX12_o hW) (by rw [fX12_c hW]; rfl) (by rw [fX12_c hW]; decide) rfl uw_1326 uw_1323 uw_1324 uw_1325 uw_9 (by decide +kernel) ⟨Nat.le_of_ble_eq_true rfl, Nat.le_of_ble_eq_true rfl⟩ ⟨(show cells ≤ 601024 by omega), (show slots ≤ 7293033 by omega)⟩ rfl rfl (hw_le ad [.inl x] rfl (Nat.le_of_ble_eq_true rfl)) dL_law_833 (kkI (fun y S2 H locs ry h2 G => ?_))
  refine gx_icmp_eq (tgt := 1167) C rx ry dL_law_836 (by decide) (fun _ => ?_) (fun h => absurd h2.1.symm h)
  exact W.widen (k := cells + 1) (n := slots + 60) (by omega) (by omega) (kk _ _ _ _ _ _ (exV.rf _) (jJ_n h2.2 (by omega) hn) hl G)
theorem lc_beside (B : LC p s m args meth c D cy A b L xs) (G : Gy D cy A s.heap ad V S H locs) (hl : l0 ad b ls (lH (i : Int))) (hJ : jJ 0 V S n) (hi : i + 6 ≤ L) (hn : n + 500 ≤ 300000) (hc : cells + 1 ≤ 601024) (hs : slots + 60 ≤ 7293033)
    (kk : ∀ (ad' : Nat → Nat) (V' : Vt) (S' : Me) (H1 : Heap) (locs1 : List Loc) (ls' : Array Slot), exV V V' → jJ 0 V' S' (n + 500) → l0 ad' b ls' (lH (i : Int)) → Gy D cy A s.heap ad' V' S' H1 locs1 → W p l e room_1 s m args below meth c H1 locs1 (cells + 1) (slots + 60) Q (F0 m 1167 ls' [])) : W p l e room_1 s m args below meth c H locs cells slots Q (F0 m 841 ls []) := by
  obtain ⟨C, hX, hbl, hbA, hL, hml⟩ := B
  have hV := (jJ_V hJ).1
  refine gx_aload_n C hl.1 dL_law_841 rfl ?_
  refine gx_callV (na := 0) C G hl.1 hml (c_X11_beside l D cy ad hV  (pr_beside hJ)) rfl (fX11_o hV) (by rw [fX11_c hV]; rfl) (by rw [fX11_c hV]; decide) rfl uw_729 uw_726 uw_727 uw_728 uw_1 (by decide +kernel) ⟨Nat.le_of_ble_eq_true rfl, Nat.le_of_ble_eq_true rfl⟩ ⟨(show cells ≤ 601024 by omega), (show slots ≤ 7293033 by omega)⟩ rfl rfl (hw_le ad [] rfl (Nat.le_of_ble_eq_true rfl)) dL_law_842 (kkI (fun x S1 H locs rx h1 G => ?_))
  have hW := (jJ_V hJ).2.1
  refine gx_aload_n C hl.1 dL_law_845 rfl ?_
  refine gx_callV (na := 0) C G hl.1 hml (c_X12_beside l D cy ad hW  h1) rfl (fX12_o hW) (by rw [fX12_c hW]; rfl) (by rw [fX12_c hW]; decide) rfl uw_1330 uw_1327 uw_1328 uw_1329 uw_9 (by decide +kernel) ⟨Nat.le_of_ble_eq_true rfl, Nat.le_of_ble_eq_true rfl⟩ ⟨(show cells ≤ 601024 by omega), (show slots ≤ 7293033 by omega)⟩ rfl rfl (hw_le ad [.inl x] rfl (Nat.le_of_ble_eq_true rfl)) dL_law_846 (kkI (fun y S2 H locs ry h2 G => ?_))
  refine gx_icmp_eq (tgt := 1167) C rx ry dL_law_849 (by decide) (fun _ => ?_) (fun h => absurd h2.1.symm h)
  exact W.widen (k := cells + 1) (n := slots + 60) (by omega) (by omega) (kk _ _ _ _ _ _ (exV.rf _) (jJ_n h2.2 (by omega) hn) hl G)
theorem lc_count (B : LC p s m args meth c D cy A b L xs) (G : Gy D cy A s.heap ad V S H locs) (hl : l0 ad b ls (lH (i : Int))) (hJ : jJ 0 V S n) (hi : i + 6 ≤ L) (hn : n + 500 ≤ 300000) (hc : cells + 1 ≤ 601024) (hs : slots + 60 ≤ 7293033)
    (kk : ∀ (ad' : Nat → Nat) (V' : Vt) (S' : Me) (H1 : Heap) (locs1 : List Loc) (ls' : Array Slot), exV V V' → jJ 0 V' S' (n + 500) → l0 ad' b ls' (lH (i : Int)) → Gy D cy A s.heap ad' V' S' H1 locs1 → W p l e room_1 s m args below meth c H1 locs1 (cells + 1) (slots + 60) Q (F0 m 1167 ls' [])) : W p l e room_1 s m args below meth c H locs cells slots Q (F0 m 854 ls []) := by
  obtain ⟨C, hX, hbl, hbA, hL, hml⟩ := B
  have hV := (jJ_V hJ).1
  refine gx_aload_n C hl.1 dL_law_854 rfl ?_
  refine lr_arg (k := 1) C G hl hX hbl hbA hL (by omega) dL_law_855 dL_law_856 dL_law_858 dL_law_859 dL_law_860 ?_
  refine gx_callV (na := 1) C G hl.1 hml (c_X11_count l D cy ad hV (rn_i _) (pr_count hJ)) rfl (fX11_o hV) (by rw [fX11_c hV]; rfl) (by rw [fX11_c hV]; decide) rfl uw_740 uw_737 uw_738 uw_739 uw_1 (by decide +kernel) ⟨Nat.le_of_ble_eq_true rfl, Nat.le_of_ble_eq_true rfl⟩ ⟨(show cells ≤ 601024 by omega), (show slots ≤ 7293033 by omega)⟩ rfl rfl (hw_le ad [] rfl (Nat.le_of_ble_eq_true rfl)) dL_law_861 (kkI (fun x S1 H locs rx h1 G => ?_))
  have hW := (jJ_V hJ).2.1
  refine gx_aload_n C hl.1 dL_law_864 rfl ?_
  refine lr_arg (k := 1) C G hl hX hbl hbA hL (by omega) dL_law_865 dL_law_866 dL_law_868 dL_law_869 dL_law_870 ?_
  refine gx_callV (na := 1) C G hl.1 hml (c_X12_count l D cy ad hW (rn_i _) h1) rfl (fX12_o hW) (by rw [fX12_c hW]; rfl) (by rw [fX12_c hW]; decide) rfl uw_1334 uw_1331 uw_1332 uw_1333 uw_9 (by decide +kernel) ⟨Nat.le_of_ble_eq_true rfl, Nat.le_of_ble_eq_true rfl⟩ ⟨(show cells ≤ 601024 by omega), (show slots ≤ 7293033 by omega)⟩ rfl rfl (hw_le ad [.inl x] rfl (Nat.le_of_ble_eq_true rfl)) dL_law_871 (kkI (fun y S2 H locs ry h2 G => ?_))
  refine gx_icmp_eq (tgt := 1167) C rx ry dL_law_874 (by decide) (fun _ => ?_) (fun h => absurd h2.1.symm h)
  exact W.widen (k := cells + 1) (n := slots + 60) (by omega) (by omega) (kk _ _ _ _ _ _ (exV.rf _) (jJ_n h2.2 (by omega) hn) hl G)
theorem lc_keep (B : LC p s m args meth c D cy A b L xs) (G : Gy D cy A s.heap ad V S H locs) (hl : l0 ad b ls (lH (i : Int))) (hJ : jJ 0 V S n) (hi : i + 6 ≤ L) (hn : n + 500 ≤ 300000) (hc : cells + 1 ≤ 601024) (hs : slots + 60 ≤ 7293033)
    (kk : ∀ (ad' : Nat → Nat) (V' : Vt) (S' : Me) (H1 : Heap) (locs1 : List Loc) (ls' : Array Slot), exV V V' → jJ 0 V' S' (n + 500) → l0 ad' b ls' (lH (i : Int)) → Gy D cy A s.heap ad' V' S' H1 locs1 → W p l e room_1 s m args below meth c H1 locs1 (cells + 1) (slots + 60) Q (F0 m 1167 ls' [])) : W p l e room_1 s m args below meth c H locs cells slots Q (F0 m 879 ls []) := by
  obtain ⟨C, hX, hbl, hbA, hL, hml⟩ := B
  have hV := (jJ_V hJ).1
  refine gx_aload_n C hl.1 dL_law_879 rfl ?_
  refine lr_arg (k := 1) C G hl hX hbl hbA hL (by omega) dL_law_880 dL_law_881 dL_law_883 dL_law_884 dL_law_885 ?_
  refine lr_arg (k := 2) C G hl hX hbl hbA hL (by omega) dL_law_886 dL_law_887 dL_law_889 dL_law_890 dL_law_891 ?_
  refine lr_arg (k := 3) C G hl hX hbl hbA hL (by omega) dL_law_892 dL_law_893 dL_law_895 dL_law_896 dL_law_897 ?_
  refine gx_callVA (na := 3) C G hl.1 (okH hJ (by unfold rng; omega)) hml (c_X11_keep l D cy ad hV (rn_i _) (rn_i _) (rn_i _) (pr_keep hJ)) rfl (fX11_o hV) (by rw [fX11_c hV]; rfl) (by rw [fX11_c hV]; decide) rfl uw_744 uw_741 uw_742 uw_743 uw_1 (by decide +kernel) ⟨Nat.le_of_ble_eq_true rfl, Nat.le_of_ble_eq_true rfl⟩ ⟨(show cells + 1 ≤ 601024 by omega), (show slots + 16 ≤ 7293033 by omega)⟩ rfl [] okS_0 rfl (Nat.le_of_ble_eq_true rfl) dL_law_898 (kaI (fun x ad1 V1 S1 H locs rx h1 hag hex hl1 G => ?_))
  have hW := fX12_x hex (jJ_V hJ).2.1
  replace hl : l0 ad1 b ls (lH (i : Int)) := ⟨hl1, hl.2⟩
  refine gx_aload_n C hl.1 dL_law_901 rfl ?_
  refine lr_arg (k := 1) C G hl hX hbl hbA hL (by omega) dL_law_902 dL_law_903 dL_law_905 dL_law_906 dL_law_907 ?_
  refine lr_arg (k := 2) C G hl hX hbl hbA hL (by omega) dL_law_908 dL_law_909 dL_law_911 dL_law_912 dL_law_913 ?_
  refine lr_arg (k := 3) C G hl hX hbl hbA hL (by omega) dL_law_914 dL_law_915 dL_law_917 dL_law_918 dL_law_919 ?_
  refine gx_callV (na := 3) C G hl.1 hml (c_X12_keep l D cy ad1 hW (rn_i _) (rn_i _) (rn_i _) h1) rfl (fX12_o hW) (by rw [fX12_c hW]; rfl) (by rw [fX12_c hW]; decide) rfl uw_1339 uw_1336 uw_1337 uw_1338 uw_9 (by decide +kernel) ⟨Nat.le_of_ble_eq_true rfl, Nat.le_of_ble_eq_true rfl⟩ ⟨(show (cells + 1) ≤ 601024 by omega), (show (slots + 16) ≤ 7293033 by omega)⟩ rfl rfl (hw_le ad1 [.inl x] rfl (Nat.le_of_ble_eq_true rfl)) dL_law_920 (kkI (fun y S2 H locs ry h2 G => ?_))
  refine gx_icmp_eq (tgt := 1167) C rx ry dL_law_923 (by decide) (fun _ => ?_) (fun h => absurd h2.1.symm h)
  exact W.widen (k := cells + 1) (n := slots + 60) (by omega) (by omega) (kk _ _ _ _ _ _ hex (jJ_n h2.2 (by omega) hn) hl G)
theorem lc_make (B : LC p s m args meth c D cy A b L xs) (G : Gy D cy A s.heap ad V S H locs) (hl : l0 ad b ls (lH (i : Int))) (hJ : jJ 0 V S n) (hi : i + 6 ≤ L) (hn : n + 500 ≤ 300000) (hc : cells + 1 ≤ 601024) (hs : slots + 60 ≤ 7293033)
    (kk : ∀ (ad' : Nat → Nat) (V' : Vt) (S' : Me) (H1 : Heap) (locs1 : List Loc) (ls' : Array Slot), exV V V' → jJ 0 V' S' (n + 500) → l0 ad' b ls' (lH (i : Int)) → Gy D cy A s.heap ad' V' S' H1 locs1 → W p l e room_1 s m args below meth c H1 locs1 (cells + 1) (slots + 60) Q (F0 m 1167 ls' [])) : W p l e room_1 s m args below meth c H locs cells slots Q (F0 m 928 ls []) := by
  obtain ⟨C, hX, hbl, hbA, hL, hml⟩ := B
  have hV := (jJ_V hJ).1
  refine gx_aload_n C hl.1 dL_law_928 rfl ?_
  refine lr_arg (k := 1) C G hl hX hbl hbA hL (by omega) dL_law_929 dL_law_930 dL_law_932 dL_law_933 dL_law_934 ?_
  refine lr_arg (k := 2) C G hl hX hbl hbA hL (by omega) dL_law_935 dL_law_936 dL_law_938 dL_law_939 dL_law_940 ?_
  refine lr_arg (k := 3) C G hl hX hbl hbA hL (by omega) dL_law_941 dL_law_942 dL_law_944 dL_law_945 dL_law_946 ?_
  refine gx_callVA (na := 3) C G hl.1 (okH hJ (by unfold rng; omega)) hml (c_X11_make l D cy ad hV (rn_i _) (rn_i _) (rn_i _) (pr_make hJ)) rfl (fX11_o hV) (by rw [fX11_c hV]; rfl) (by rw [fX11_c hV]; decide) rfl uw_781 uw_778 uw_779 uw_780 uw_1 (by decide +kernel) ⟨Nat.le_of_ble_eq_true rfl, Nat.le_of_ble_eq_true rfl⟩ ⟨(show cells + 1 ≤ 601024 by omega), (show slots + 60 ≤ 7293033 by omega)⟩ rfl [] okS_0 rfl (Nat.le_of_ble_eq_true rfl) dL_law_947 (kaI (fun x ad1 V1 S1 H locs rx h1 hag hex hl1 G => ?_))
  have hW := fX12_x hex (jJ_V hJ).2.1
  replace hl : l0 ad1 b ls (lH (i : Int)) := ⟨hl1, hl.2⟩
  refine gx_aload_n C hl.1 dL_law_950 rfl ?_
  refine lr_arg (k := 1) C G hl hX hbl hbA hL (by omega) dL_law_951 dL_law_952 dL_law_954 dL_law_955 dL_law_956 ?_
  refine lr_arg (k := 2) C G hl hX hbl hbA hL (by omega) dL_law_957 dL_law_958 dL_law_960 dL_law_961 dL_law_962 ?_
  refine lr_arg (k := 3) C G hl hX hbl hbA hL (by omega) dL_law_963 dL_law_964 dL_law_966 dL_law_967 dL_law_968 ?_
  refine gx_callV (na := 3) C G hl.1 hml (c_X12_make l D cy ad1 hW (rn_i _) (rn_i _) (rn_i _) h1) rfl (fX12_o hW) (by rw [fX12_c hW]; rfl) (by rw [fX12_c hW]; decide) rfl uw_1351 uw_1348 uw_1349 uw_1350 uw_9 (by decide +kernel) ⟨Nat.le_of_ble_eq_true rfl, Nat.le_of_ble_eq_true rfl⟩ ⟨(show (cells + 1) ≤ 601024 by omega), (show (slots + 60) ≤ 7293033 by omega)⟩ rfl rfl (hw_le ad1 [.inl x] rfl (Nat.le_of_ble_eq_true rfl)) dL_law_969 (kkI (fun y S2 H locs ry h2 G => ?_))
  refine gx_icmp_eq (tgt := 1167) C rx ry dL_law_972 (by decide) (fun _ => ?_) (fun h => absurd h2.1.symm h)
  exact W.widen (k := cells + 1) (n := slots + 60) (by omega) (by omega) (kk _ _ _ _ _ _ hex (jJ_n h2.2 (by omega) hn) hl G)
theorem lc_copy (B : LC p s m args meth c D cy A b L xs) (G : Gy D cy A s.heap ad V S H locs) (hl : l0 ad b ls (lH (i : Int))) (hJ : jJ 0 V S n) (hi : i + 6 ≤ L) (hn : n + 500 ≤ 300000) (hc : cells + 1 ≤ 601024) (hs : slots + 60 ≤ 7293033)
    (kk : ∀ (ad' : Nat → Nat) (V' : Vt) (S' : Me) (H1 : Heap) (locs1 : List Loc) (ls' : Array Slot), exV V V' → jJ 0 V' S' (n + 500) → l0 ad' b ls' (lH (i : Int)) → Gy D cy A s.heap ad' V' S' H1 locs1 → W p l e room_1 s m args below meth c H1 locs1 (cells + 1) (slots + 60) Q (F0 m 1167 ls' [])) : W p l e room_1 s m args below meth c H locs cells slots Q (F0 m 1044 ls []) := by
  obtain ⟨C, hX, hbl, hbA, hL, hml⟩ := B
  have hV := (jJ_V hJ).1
  refine gx_aload_n C hl.1 dL_law_1044 rfl ?_
  refine lr_arg (k := 1) C G hl hX hbl hbA hL (by omega) dL_law_1045 dL_law_1046 dL_law_1048 dL_law_1049 dL_law_1050 ?_
  refine lr_arg (k := 2) C G hl hX hbl hbA hL (by omega) dL_law_1051 dL_law_1052 dL_law_1054 dL_law_1055 dL_law_1056 ?_
  refine lr_arg (k := 3) C G hl hX hbl hbA hL (by omega) dL_law_1057 dL_law_1058 dL_law_1060 dL_law_1061 dL_law_1062 ?_
  refine lr_arg (k := 4) C G hl hX hbl hbA hL (by omega) dL_law_1063 dL_law_1064 dL_law_1066 dL_law_1067 dL_law_1068 ?_
  refine lr_arg (k := 5) C G hl hX hbl hbA hL (by omega) dL_law_1069 dL_law_1070 dL_law_1072 dL_law_1073 dL_law_1074 ?_
  refine gx_callV (na := 5) C G hl.1 hml (c_X11_copy l D cy ad hV (rn_i _) (rn_i _) (rn_i _) (rn_i _) (rn_i _) (pr_copy hJ)) rfl (fX11_o hV) (by rw [fX11_c hV]; rfl) (by rw [fX11_c hV]; decide) rfl uw_785 uw_782 uw_783 uw_784 uw_1 (by decide +kernel) ⟨Nat.le_of_ble_eq_true rfl, Nat.le_of_ble_eq_true rfl⟩ ⟨(show cells ≤ 601024 by omega), (show slots ≤ 7293033 by omega)⟩ rfl rfl (hw_le ad [] rfl (Nat.le_of_ble_eq_true rfl)) dL_law_1075 (kkI (fun x S1 H locs rx h1 G => ?_))
  have hW := (jJ_V hJ).2.1
  refine gx_aload_n C hl.1 dL_law_1078 rfl ?_
  refine lr_arg (k := 1) C G hl hX hbl hbA hL (by omega) dL_law_1079 dL_law_1080 dL_law_1082 dL_law_1083 dL_law_1084 ?_
  refine lr_arg (k := 2) C G hl hX hbl hbA hL (by omega) dL_law_1085 dL_law_1086 dL_law_1088 dL_law_1089 dL_law_1090 ?_
  refine lr_arg (k := 3) C G hl hX hbl hbA hL (by omega) dL_law_1091 dL_law_1092 dL_law_1094 dL_law_1095 dL_law_1096 ?_
  refine lr_arg (k := 4) C G hl hX hbl hbA hL (by omega) dL_law_1097 dL_law_1098 dL_law_1100 dL_law_1101 dL_law_1102 ?_
  refine lr_arg (k := 5) C G hl hX hbl hbA hL (by omega) dL_law_1103 dL_law_1104 dL_law_1106 dL_law_1107 dL_law_1108 ?_
  refine gx_callV (na := 5) C G hl.1 hml (c_X12_copy l D cy ad hW (rn_i _) (rn_i _) (rn_i _) (rn_i _) (rn_i _) h1) rfl (fX12_o hW) (by rw [fX12_c hW]; rfl) (by rw [fX12_c hW]; decide) rfl uw_1359 uw_1356 uw_1357 uw_1358 uw_9 (by decide +kernel) ⟨Nat.le_of_ble_eq_true rfl, Nat.le_of_ble_eq_true rfl⟩ ⟨(show cells ≤ 601024 by omega), (show slots ≤ 7293033 by omega)⟩ rfl rfl (hw_le ad [.inl x] rfl (Nat.le_of_ble_eq_true rfl)) dL_law_1109 (kkI (fun y S2 H locs ry h2 G => ?_))
  refine gx_icmp_eq (tgt := 1167) C rx ry dL_law_1112 (by decide) (fun _ => ?_) (fun h => absurd h2.1.symm h)
  exact W.widen (k := cells + 1) (n := slots + 60) (by omega) (by omega) (kk _ _ _ _ _ _ (exV.rf _) (jJ_n h2.2 (by omega) hn) hl G)
theorem lc_weight (B : LC p s m args meth c D cy A b L xs) (G : Gy D cy A s.heap ad V S H locs) (hl : l0 ad b ls (lH (i : Int))) (hJ : jJ 0 V S n) (hi : i + 6 ≤ L) (hn : n + 500 ≤ 300000) (hc : cells + 1 ≤ 601024) (hs : slots + 60 ≤ 7293033)
    (kk : ∀ (ad' : Nat → Nat) (V' : Vt) (S' : Me) (H1 : Heap) (locs1 : List Loc) (ls' : Array Slot), exV V V' → jJ 0 V' S' (n + 500) → l0 ad' b ls' (lH (i : Int)) → Gy D cy A s.heap ad' V' S' H1 locs1 → W p l e room_1 s m args below meth c H1 locs1 (cells + 1) (slots + 60) Q (F0 m 1167 ls' [])) : W p l e room_1 s m args below meth c H locs cells slots Q (F0 m 1117 ls []) := by
  obtain ⟨C, hX, hbl, hbA, hL, hml⟩ := B
  have hV := (jJ_V hJ).1
  refine gx_aload_n C hl.1 dL_law_1117 rfl ?_
  refine lr_arg (k := 1) C G hl hX hbl hbA hL (by omega) dL_law_1118 dL_law_1119 dL_law_1121 dL_law_1122 dL_law_1123 ?_
  refine gx_callV (na := 1) C G hl.1 hml (c_X11_weight l D cy ad hV (rn_i _) (pr_weight hJ)) rfl (fX11_o hV) (by rw [fX11_c hV]; rfl) (by rw [fX11_c hV]; decide) rfl uw_796 uw_793 uw_794 uw_795 uw_1 (by decide +kernel) ⟨Nat.le_of_ble_eq_true rfl, Nat.le_of_ble_eq_true rfl⟩ ⟨(show cells ≤ 601024 by omega), (show slots ≤ 7293033 by omega)⟩ rfl rfl (hw_le ad [] rfl (Nat.le_of_ble_eq_true rfl)) dL_law_1124 (kkI (fun x S1 H locs rx h1 G => ?_))
  have hW := (jJ_V hJ).2.1
  refine gx_aload_n C hl.1 dL_law_1127 rfl ?_
  refine lr_arg (k := 1) C G hl hX hbl hbA hL (by omega) dL_law_1128 dL_law_1129 dL_law_1131 dL_law_1132 dL_law_1133 ?_
  refine gx_callV (na := 1) C G hl.1 hml (c_X12_weight l D cy ad hW (rn_i _) h1) rfl (fX12_o hW) (by rw [fX12_c hW]; rfl) (by rw [fX12_c hW]; decide) rfl uw_1367 uw_1364 uw_1365 uw_1366 uw_9 (by decide +kernel) ⟨Nat.le_of_ble_eq_true rfl, Nat.le_of_ble_eq_true rfl⟩ ⟨(show cells ≤ 601024 by omega), (show slots ≤ 7293033 by omega)⟩ rfl rfl (hw_le ad [.inl x] rfl (Nat.le_of_ble_eq_true rfl)) dL_law_1134 (kkI (fun y S2 H locs ry h2 G => ?_))
  refine gx_icmp_eq (tgt := 1167) C rx ry dL_law_1137 (by decide) (fun _ => ?_) (fun h => absurd h2.1.symm h)
  exact W.widen (k := cells + 1) (n := slots + 60) (by omega) (by omega) (kk _ _ _ _ _ _ (exV.rf _) (jJ_n h2.2 (by omega) hn) hl G)
end LW
