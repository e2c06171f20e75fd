/-! ===== THE LAW: the two cases where a method throws inside ===== -/
section LX
variable {p : Program} {l : Launch} {e : Env} {R : Room} {s : State} {m : MethodId} {args : Array Value} {below : List Frame} {meth : Method} {c : Code} {H : Heap} {locs : List Loc} {cells slots : Nat} {Q : State → Prop} {cc : ByteArray} {pc : Nat} {ls : Array Slot} {rest : List Value} {D : va_G} {cy : ClassId × ClassId × ClassId × ClassId} {A : Nat → Prop} {ad : Nat → Nat} {V : Vt} {S : Me} {own : String} {PL : List (Option (Int ⊕ Option Nat))} {b : Nat}
theorem gy_free (C : Cx p s m args meth c cc own D cy A) (G : Gy D cy A s.heap ad V S H locs) : ∀ q, RA ad V.1 H.size q → A q := by
  intro q hq
  rcases hq with ⟨k, hk, rfl⟩ | hq
  · exact G.2.1 k hk
  · exact C.2.2.2.2.2.1 q (Nat.le_trans G.2.2.1 hq)
theorem gx_backW (C : Cx p s m args meth c cc own D cy A) (G : Gy D cy A s.heap ad V S H locs) {st0 : List Value} {mc ms : Nat} {Qo : Option (Int ⊕ Option Nat) → Me → Prop} (hr : va_Run p l e R s m args below meth c H locs cells slots mc ms (F0 m pc ls st0) rest (fun st oc t => (∃ (r : Option (Int ⊕ Option Nat)) (S' : Me), oc = .returned (r.map (vS ad)) ∧ (∀ v, r = some v → okv V v) ∧ Qo r S' ∧ Gx D cy ad V S' t.heap) ∧ va_F (RA ad V.1 H.size) st t) (RA ad V.1 H.size))
    (kk : ∀ (r : Option (Int ⊕ Option Nat)) (S' : Me) (H1 : Heap) (locs1 : List Loc), (∀ v, r = some v → okv V v) → Qo r S' → Gy D cy A s.heap ad V S' H1 locs1 → W p l e R s m args below meth c H1 locs1 (cells + mc) (slots + ms) Q (F0 m (pc + 3) ls ((r.map (vS ad)).toList ++ rest))) : W p l e R s m args below meth c H locs cells slots Q (F0 m pc ls st0) := by
  have hfree := gy_free C G
  intro T hT X
  obtain ⟨v, st₀, t, T', L, h0, X', hL, e1, e2, ⟨⟨r, S', hv, hok, hq, hg⟩, hz, hk⟩, st⟩ := hr T hT X
  cases hv
  rw [h0] at hz hk
  obtain ⟨t2, a1, b1⟩ := kk r S' T'.heap (locs ++ L) hok hq ⟨by rw [e1]; exact hg, G.2.1, Nat.le_trans G.2.2.1 (by rw [e1]; exact hz), fun q h1 h2 => by rw [e1, hk q (Nat.lt_of_lt_of_le h1 G.2.2.1) (fun z => h2 (hfree q z))]; exact G.2.2.2.1 q h1 h2, fun q hq => by
      rcases List.mem_append.mp hq with h | h
      · exact G.2.2.2.2 q h
      · exact hfree _ (hL q h)⟩ T' rfl X'
  exact ⟨t2, st t2 a1, b1⟩
theorem sx_at (C : Cx p s m args meth c cc own D cy A) (G : Gy D cy A s.heap ad V S H locs) (h : SX A s s.heap) : SX (RA ad V.1 H.size) s H := (h.kept (fun q h1 h2 => G.2.2.2.1 q h1 h2)).narrow (gy_free C G)
theorem lr_lstore (C : Cx p s m args meth c cc own D cy A) {x : Int} (hl : l0 ad b ls PL) (hn : 7 < PL.length) (h6 : ∀ v, ¬ PL[6]? = some (some v)) (h7 : ∀ v, ¬ PL[7]? = some (some v)) (hdg : decode cc pc = .ok (.lstore 6, 2)) (kk : ∀ ls', l0 ad b ls' PL → ls'[6]? = some (.val (vL x)) → W p l e R s m args below meth c H locs cells slots Q (F0 m (pc + 2) ls' rest)) : W p l e R s m args below meth c H locs cells slots Q (F0 m pc ls (vL x :: rest)) := by
  refine lv_lstore (x := Int64.ofInt x) C.1 C.2.1 hdg (l0_has hl) hn rfl (fun ls' h' => kk ls' ⟨⟨h'.1, h'.2.1, fun j v hj => ?_⟩, ?_⟩ (h'.2.2 (6, vL x) List.mem_cons_self))
  · refine h'.2.2 (j, vS ad v) (List.mem_cons_of_mem _ (List.mem_filter.mpr ⟨List.mem_cons_of_mem _ (lof_in hj), ?_⟩))
    have a6 : j ≠ 6 := fun q => h6 v (by rw [← q]; exact hj)
    have a7 : j ≠ 7 := fun q => h7 v (by rw [← q]; exact hj)
    simp [vS_cat, a6, a7]
  · exact h'.2.2 (0, Value.ref b) (List.mem_cons_of_mem _ (List.mem_filter.mpr ⟨List.mem_cons_self, by simp⟩))
theorem lH_fg {i k : Int} : ∀ (j : Nat) (v : Int ⊕ Option Nat), (lH i)[j]? = some (some v) → ((lH i).set 5 (some (.inl k)))[j]? = some (some v) := by
  intro j v h
  match j, h with
  | 0, h => exact h
  | 1, h => exact h
  | 2, h => exact h
  | 3, h => exact h
  | 4, h => exact h
  | 5, h => exact absurd (Option.some.inj (show some none = some (some v) from h)) (by simp)
  | 6, h => exact h
  | 7, h => exact h
  | j + 8, h => exact h
theorem lcmp0 (x : Int64) : lg_cmp x x = 0 := by
  unfold lg_cmp
  simp
end LX
section LY
variable {p : Program} {l : Launch} {e : Env} {s : State} {m : MethodId} {args : Array Value} {below : List Frame} {meth : Method} {c : Code} {H : Heap} {locs : List Loc} {cells slots : Nat} {Q : State → Prop} {ls : Array Slot} {D : va_G} {cy : ClassId × ClassId × ClassId × ClassId} {A : Nat → Prop} {ad : Nat → Nat} {V : Vt} {S : Me} {b L i : Nat} {xs : Nat → Int32} {n : Int}
theorem lc_toss (hst : l.stackTraces = false) (hSX : SX A s s.heap) (B : LC p s m args meth c D cy A b L xs) (G : Gy D cy A s.heap ad V S H locs) (hl : l0 ad b ls (lH (i : Int))) (hJ : jJ 0 V S n) (hi : i + 6 ≤ L) (hn : n + 500 ≤ 300000) (hc : cells + 1 ≤ 601024) (hs : slots + 60 ≤ 7293033)
    (kk : ∀ (ad' : Nat → Nat) (V' : Vt) (S' : Me) (H1 : Heap) (locs1 : List Loc) (ls' : Array Slot), exV V V' → jJ 0 V' S' (n + 500) → l0 ad' b ls' (lH (i : Int)) → Gy D cy A s.heap ad' V' S' H1 locs1 → W p l e room_1 s m args below meth c H1 locs1 (cells + 1) (slots + 60) Q (F0 m 1167 ls' [])) : W p l e room_1 s m args below meth c H locs cells slots Q (F0 m 1142 ls []) := by
  obtain ⟨C, hX, hbl, hbA, hL, hml⟩ := B
  have hV := (jJ_V hJ).1
  have hts := C.2.2.2.1
  refine gx_aload_n C hl.1 dL_law_1142 rfl ?_
  refine lr_arg (k := 1) C G hl hX hbl hbA hL (by omega) dL_law_1143 dL_law_1144 dL_law_1146 dL_law_1147 dL_law_1148 ?_
  have hS' := sx_at C G hSX
  refine gx_backW C G (vx_runVW (C := RX11) (b := ad 0) (As := [vI (xs (i + 1)).toInt]) (rest := []) (Ts := UW) (own := RL) (nL := 8) ⟨C.1, C.2.1, hml, C.2.2.1, hts⟩ (c_X11_toss l hst D cy ad hV (rn_i _) (pr_toss hJ) H.size) ⟨⟨rfl, rfl, Nat.le_of_ble_eq_true rfl, Nat.le_of_ble_eq_true rfl, pay_in hts (uw_inW uwToss), List.mem_cons_self⟩, hts _ uwToss, hts _ uw_1, ⟨by decide, by decide⟩, fun sig h => ?_, hts _ uw_823, hts _ uw_824, hts _ uw_825⟩ ⟨fun a U g mk q => ⟨q.1, q.2.1, q.2.2.1, Kx.same (u := U) (U := U.calling g mk a) rfl q.2.2.2.1, SX.same (u := U) (U := U.calling g mk a) rfl q.2.2.2.2⟩, va_recv (C.2.2.2.2.1).1 G.1.1 (q := (RX11, TX11, 16)) (by rw [fX11_c hV]; rfl) (wo_o (fX11_o hV) (by rw [fX11_c hV]; decide)), fun U hU hW => ⟨rfl, by rw [hU], by rw [hU]; exact G.1, Kx.warm hW C.2.2.2.2.1, by rw [hU]; exact SX.warm hW hS'⟩⟩ rfl rfl hl.1.1 rfl (lv_room (Nat.le_of_ble_eq_true rfl)) dL_law_1149 ⟨(show cells + 1 ≤ 601024 by omega), (show slots + 6 ≤ 7293033 by omega)⟩) (kkI (fun x S1 H locs rx h1 G => ?_))
  · have h2 : (parseMethodDescriptor yX11_toss.desc).map (fun d => d.parameters.length) = some 1 := by decide +kernel
    rw [h] at h2
    exact (Option.some.inj h2).symm
  have hW := (jJ_V hJ).2.1
  refine gx_aload_n C hl.1 dL_law_1152 rfl ?_
  refine lr_arg (k := 1) C G hl hX hbl hbA hL (by omega) dL_law_1153 dL_law_1154 dL_law_1156 dL_law_1157 dL_law_1158 ?_
  refine gx_callV (na := 1) C G hl.1 hml (c_X12_toss l D cy ad hW (rn_i _) h1) rfl (fX12_o hW) (by rw [fX12_c hW]; rfl) (by rw [fX12_c hW]; decide) rfl uw_1375 uw_1372 uw_1373 uw_1374 uw_9 (by decide +kernel) ⟨Nat.le_of_ble_eq_true rfl, Nat.le_of_ble_eq_true rfl⟩ ⟨(show cells + 1 ≤ 601024 by omega), (show slots + 6 ≤ 7293033 by omega)⟩ rfl rfl (hw_le ad [.inl x] rfl (Nat.le_of_ble_eq_true rfl)) dL_law_1159 (kkI (fun y S2 H locs ry h2 G => ?_))
  refine gx_icmp_eq (tgt := 1167) C rx ry dL_law_1162 (by decide) (fun _ => ?_) (fun h => absurd h2.1.symm h)
  exact W.widen (k := cells + 1) (n := slots + 60) (by omega) (by omega) (kk _ _ _ _ _ _ (exV.rf _) (jJ_n h2.2 (by omega) hn) hl G)
theorem lc_element (hst : l.stackTraces = false) (hSX : SX A s s.heap) (hNc : va_Nc "java/lang/IllegalStateException" "java/lang/IllegalArgumentException" s) (h72 : V.2.2.1 72 = 1) (B : LC p s m args meth c D cy A b L xs) (G : Gy D cy A s.heap ad V S H locs) (hl : l0 ad b ls (lH (i : Int))) (hJ : jJ 0 V S n) (hi : i + 6 ≤ L) (hn : n + 500 ≤ 300000) (hc : cells + 1 ≤ 601024) (hs : slots + 60 ≤ 7293033)
    (kk : ∀ (ad' : Nat → Nat) (V' : Vt) (S' : Me) (H1 : Heap) (locs1 : List Loc) (ls' : Array Slot), exV V V' → jJ 0 V' S' (n + 500) → l0 ad' b ls' (lH (i : Int)) → Gy D cy A s.heap ad' V' S' H1 locs1 → W p l e room_1 s m args below meth c H1 locs1 (cells + 1) (slots + 60) Q (F0 m 1167 ls' [])) : W p l e room_1 s m args below meth c H locs cells slots Q (F0 m 977 ls []) := by
  obtain ⟨C, hX, hbl, hbA, hL, hml⟩ := B
  have hV := (jJ_V hJ).1
  have hts := C.2.2.2.1
  have l72 : 72 < V.1 := by have := (jJ_V hJ).2.2.1; omega
  have t72 : V.2.1 72 = 15 := (jJ_V hJ).2.2.2.1
  refine gx_aload_n C hl.1 dL_law_977 rfl ?_
  refine lr_arg (k := 1) C G hl hX hbl hbA hL (by omega) dL_law_978 dL_law_979 dL_law_981 dL_law_982 dL_law_983 ?_
  refine lr_arg (k := 2) C G hl hX hbl hbA hL (by omega) dL_law_984 dL_law_985 dL_law_987 dL_law_988 dL_law_989 ?_
  refine gx_aload_n C hl.1 dL_law_990 rfl ?_
  have hS' := sx_at C G hSX
  refine gx_backW C G (vx_runSW (As := [vR ad (some 0), vI (xs (i + 1)).toInt, vI (xs (i + 2)).toInt, vR ad (some 72)]) (rest := []) (Ts := UW) (own := RL) (nL := 8) ⟨C.1, C.2.1, hml, C.2.2.1, hts⟩ (c_L_element l hst D cy ad hV (rn_i _) (rn_i _) l72 t72 h72 (pr_element hJ) H.size) ⟨⟨rfl, rfl, Nat.le_of_ble_eq_true rfl, Nat.le_of_ble_eq_true rfl, pay_in hts (uw_inW uwLelem), List.mem_cons_self⟩, hts _ uwLelem, hts _ uw_0, ⟨by decide, by decide⟩, fun sig h => ?_, hts _ uw_907, hts _ uw_908⟩ ⟨fun a U g mk q => ⟨q.1, q.2.1, q.2.2.1, Kx.same (u := U) (U := U.calling g mk a) rfl q.2.2.2.1, SX.same (u := U) (U := U.calling g mk a) rfl q.2.2.2.2.1, q.2.2.2.2.2⟩, fun U hU hW => ⟨rfl, by rw [hU], by rw [hU]; exact G.1, Kx.warm hW C.2.2.2.2.1, by rw [hU]; exact SX.warm hW hS', hNc.moved hW.alike⟩⟩ rfl rfl hl.1.1 rfl (lv_room (Nat.le_of_ble_eq_true rfl)) dL_law_991 ⟨(show cells + 1 ≤ 601024 by omega), (show slots + 6 ≤ 7293033 by omega)⟩) (kkI (fun x S1 H locs rx h1 G => ?_))
  · have h2 : (parseMethodDescriptor yL_element.desc).map (fun d => d.parameters.length) = some 4 := by decide +kernel
    rw [h] at h2
    exact (Option.some.inj h2).symm
  have hW := (jJ_V hJ).2.1
  refine lr_istore C hl dL_law_994 (show 5 < 8 by decide) (by decide) rfl (fun ls hl5 => ?_)
  have hl : l0 ad b ls (lH (i : Int)) := l0_fg hl5 rfl lH_fg
  refine gx_aload_n C hl.1 dL_law_996 rfl ?_
  refine lr_arg (k := 1) C G hl hX hbl hbA hL (by omega) dL_law_997 dL_law_998 dL_law_1000 dL_law_1001 dL_law_1002 ?_
  refine lr_arg (k := 2) C G hl hX hbl hbA hL (by omega) dL_law_1003 dL_law_1004 dL_law_1006 dL_law_1007 dL_law_1008 ?_
  refine gx_callVL (na := 2) C G (hml.trans hl.1.1.symm) (c_X12_element l D cy ad hW (rn_i _) (rn_i _) h1) rfl (fX12_o hW) (by rw [fX12_c hW]; rfl) (by rw [fX12_c hW]; decide) rfl uw_1355 uw_1352 uw_1353 uw_1354 uw_9 (by decide +kernel) ⟨Nat.le_of_ble_eq_true rfl, Nat.le_of_ble_eq_true rfl⟩ ⟨(show cells + 1 ≤ 601024 by omega), (show slots + 6 ≤ 7293033 by omega)⟩ rfl rfl (hw_le ad [] rfl (Nat.le_of_ble_eq_true rfl)) dL_law_1009 (fun y S2 H locs ry h2 G => ?_)
  obtain ⟨h2a, h2b, h2c⟩ := h2
  refine lr_lstore C hl5 (show 7 < 8 by decide) (fun v h => absurd (Option.some.inj (show some none = some (some v) from h)) (by simp)) (fun v h => absurd (Option.some.inj (show some none = some (some v) from h)) (by simp)) dL_law_1012 (fun ls hl5 hl6 => ?_)
  have hl : l0 ad b ls (lH (i : Int)) := l0_fg hl5 rfl lH_fg
  refine gx_aload_n C hl.1 dL_law_1014 rfl ?_
  refine gx_callV (na := 0) C G hl.1 hml (c_X12_thrown l D cy ad hW (Q := fun t S3 => t = x ∧ S3 = S2) ⟨h2a, rfl⟩) rfl (fX12_o hW) (by rw [fX12_c hW]; rfl) (by rw [fX12_c hW]; decide) rfl uw_1109 uw_1106 uw_1107 uw_1108 uw_9 (by decide +kernel) ⟨Nat.le_of_ble_eq_true rfl, Nat.le_of_ble_eq_true rfl⟩ ⟨(show cells + 1 ≤ 601024 by omega), (show slots + 6 ≤ 7293033 by omega)⟩ rfl rfl (hw_le ad [] rfl (Nat.le_of_ble_eq_true rfl)) dL_law_1015 (kkI (fun t S3 H3 locs3 rt h3 G3 => ?_))
  obtain ⟨e3, e4⟩ := h3
  rw [e4] at G3
  refine gx_iload C hl5.1 dL_law_1018 rfl ?_
  refine gx_icmp_eq (tgt := 1025) C rt rx dL_law_1020 (by decide) (fun _ => ?_) (fun h => absurd e3 h)
  have fin : W p l e room_1 s m args below meth c H3 locs3 (cells + 1) (slots + 6) Q (F0 m 1041 ls []) := by
    refine gx_goto (tgt := 1167) C dL_law_1041 (by decide) ?_
    exact W.widen (k := cells + 1) (n := slots + 60) (by omega) (by omega) (kk _ _ _ _ _ _ (exV.rf _) (jJ_n h2c (by omega) hn) hl G3)
  refine gx_iload C hl5.1 dL_law_1025 rfl ?_
  refine gx_if_ne (tgt := 1041) C rx dL_law_1027 (by decide) (fun _ => fin) (fun h0 => ?_)
  refine gx_aload_n C hl.1 dL_law_1030 rfl ?_
  refine gx_iconst C dL_law_1031 ?_
  refine gx_lald C G3 rfl l72 t72 (show rng 0 by decide) (Int.le_refl 0) (by rw [h72]; decide) dL_law_1032 ?_
  refine lv_lload C.1 C.2.1 dL_law_1033 hl6 ?_
  have ey : S2.1 72 (Int.toNat 0) = y := h2b h0
  rw [ey]
  refine W.lcmp C.1 C.2.1 dL_law_1035 ?_
  rw [lcmp0]
  exact gx_if_eq (x := 0) (tgt := 1041) C (by decide) dL_law_1036 (by decide) (fun _ => fin) (fun h => absurd rfl h)
end LY
