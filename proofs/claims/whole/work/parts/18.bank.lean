section
variable {p : Program} {l : Launch} {e : Env} {R : Room} {s : State} {m : MethodId} {args : Array Value} {below : List Frame} {meth : Method} {c : Code} {H : Heap} {locs : List Loc} {cells slots : Nat} {Q : State → Prop} {cc : ByteArray} {pc : Nat} {ls : Array Slot} {rest : List Value} {D : va_G} {cy : ClassId × ClassId × ClassId × ClassId} {A : Nat → Prop} {ad : Nat → Nat} {V : Vt} {S : Me} {PL : List (Option (Int ⊕ Option Nat))}
set_option maxHeartbeats 4000000 in
set_option maxRecDepth 100000 in
theorem gv_11_222 (C : Cx p s m args meth c cc RX11 D cy A) (G : Gy D cy A s.heap ad V S H locs) (hlo : lo ad ls PL) (hml : c.maxLocals = PL.length) {r : Option Nat} {z : Nat} (hz : r = some z) (hzl : z < V.1) (hA : isA (V.2.1 z)) {Qi : Int → Me → Prop} (h : PV_kind V z S Qi) (hR : 1 ≤ R.frames ∧ 20 ≤ R.locals) (hRc : cells ≤ R.cells ∧ slots ≤ R.slots) (hW : (rest.map fun v => v.category).sum ≤ 8) (hdg : decode cc pc = .ok (.invokevirtual 222, 3)) (kk : ∀ (x : Int) (S' : Me) (H1 : Heap) (locs1 : List Loc), rng x → Qi x S' → Gy D cy A s.heap ad V S' H1 locs1 → W p l e R s m args below meth c H1 locs1 cells slots Q (F0 m (pc + 3) ls (vI x :: rest))) : W p l e R s m args below meth c H locs cells slots Q (F0 m pc ls (vR ad r :: rest)) := by
  subst hz
  have hdc : va_Decl s ⟨"RowBank$Ask", "kind", "()I"⟩ := va_Decl.abs (C.2.2.2.2.1.2 (.declares (⟨RX0, "kind", "()I"⟩ : MethodName)) (by decide +kernel))
  unfold PV_kind at h
  rcases hA with t | t | t | t | t
  · exact gx_callU (x := (⟨RX0, "kind", "()I"⟩ : MethodName)) (owner := "RowBank$Ask") C G hlo hml (c_X2_kind l D cy ad hzl t (h.1 t)) rfl hzl (by rw [t]; rfl) (by rw [t]; decide) uw_384 uw_670 uw_381 hdc uw_383 uw_382 uw_15 hd_v_kind ⟨Nat.le_trans (Nat.le_of_ble_eq_true rfl) hR.1, Nat.le_trans (Nat.le_of_ble_eq_true rfl) hR.2⟩ hRc rfl rfl hW hdg (kkI kk)
  · exact gx_callU (x := (⟨RX0, "kind", "()I"⟩ : MethodName)) (owner := "RowBank$Ask") C G hlo hml (c_X3_kind l D cy ad hzl t (h.2.1 t)) rfl hzl (by rw [t]; rfl) (by rw [t]; decide) uw_387 uw_670 uw_381 hdc uw_386 uw_385 uw_13 hd_v_kind ⟨Nat.le_trans (Nat.le_of_ble_eq_true rfl) hR.1, Nat.le_trans (Nat.le_of_ble_eq_true rfl) hR.2⟩ hRc rfl rfl hW hdg (kkI kk)
  · exact gx_callU (x := (⟨RX0, "kind", "()I"⟩ : MethodName)) (owner := "RowBank$Ask") C G hlo hml (c_X6_kind l D cy ad hzl t (h.2.2.1 t)) rfl hzl (by rw [t]; rfl) (by rw [t]; decide) uw_390 uw_670 uw_381 hdc uw_389 uw_388 uw_11 hd_v_kind ⟨Nat.le_trans (Nat.le_of_ble_eq_true rfl) hR.1, Nat.le_trans (Nat.le_of_ble_eq_true rfl) hR.2⟩ hRc rfl rfl hW hdg (kkI kk)
  · exact gx_callU (x := (⟨RX0, "kind", "()I"⟩ : MethodName)) (owner := "RowBank$Ask") C G hlo hml (c_X9_kind l D cy ad hzl t (h.2.2.2.1 t)) rfl hzl (by rw [t]; rfl) (by rw [t]; decide) uw_393 uw_670 uw_381 hdc uw_392 uw_391 uw_14 hd_v_kind ⟨Nat.le_trans (Nat.le_of_ble_eq_true rfl) hR.1, Nat.le_trans (Nat.le_of_ble_eq_true rfl) hR.2⟩ hRc rfl rfl hW hdg (kkI kk)
  · exact gx_callU (x := (⟨RX0, "kind", "()I"⟩ : MethodName)) (owner := "RowBank$Ask") C G hlo hml (c_X10_kind l D cy ad hzl (by omega) (h.2.2.2.2 t)) rfl hzl (by rw [t]; rfl) (by rw [t]; decide) uw_396 uw_670 uw_381 hdc uw_395 uw_394 uw_12 hd_v_kind ⟨Nat.le_trans (Nat.le_of_ble_eq_true rfl) hR.1, Nat.le_trans (Nat.le_of_ble_eq_true rfl) hR.2⟩ hRc rfl rfl hW hdg (kkI kk)
end
def PT_X11_isWithin (V : Vt) (x1 : Int) (x2 : Int) (x3 : Int) (S : Me) (Q : Int → Me → Prop) : Prop := ((x1 < x2 → Q 0 S) ∧ (¬ x1 < x2 → ((x3 < x1 → Q 0 S) ∧ (¬ x3 < x1 → Q 1 S))))
theorem hd_X11_isWithin : yX11_isWithin.cls ≠ "java/lang/invoke/MethodHandle" ∧ yX11_isWithin.cls ≠ "java/lang/invoke/VarHandle" ∧ (parseMethodDescriptor yX11_isWithin.desc).map (fun d => d.parameters.length) = some 3 := by decide +kernel
set_option maxHeartbeats 4000000 in
set_option maxRecDepth 100000 in
theorem c_X11_isWithin (l : Launch) (D : va_G) (cy : ClassId × ClassId × ClassId × ClassId) (ad : Nat → Nat) {V : Vt} {S : Me} {x1 : Int} {x2 : Int} {x3 : Int} (rx1 : rng x1) (rx2 : rng x2) (rx3 : rng x3) {Q : Int → Me → Prop} (h : PT_X11_isWithin V x1 x2 x3 S Q) : KM l D cy yX11_isWithin cX11_isWithin 3 (Option.some Jvm.ClassFile.FieldType.boolean) 0 0 ad V S [.inl x1, .inl x2, .inl x3] (qI Q) := by
  refine KM.of (by decide) rfl (Nat.le_of_ble_eq_true rfl) (own := RX11) (fun p e s m args below meth c A ls H locs eA C hret hml hmn hl G => ?_)
  have hl : lo ad ls [some (.inl x1), some (.inl x2), some (.inl x3)] := hl
  clear eA
  unfold PT_X11_isWithin at h
  refine gx_iload_n C hl dX11_isWithin_0 rfl ?_
  refine gx_iload_n C hl dX11_isWithin_1 rfl ?_
  refine gx_icmp_lt (tgt := 14) C rx1 rx2 dX11_isWithin_2 (by decide) (fun c1 => ?_) (fun c1 => ?_)
  · have h := h.1 c1
    refine gx_iconst C dX11_isWithin_14 ?_
    exact gx_zret C G hret (Or.inl rfl) h dX11_isWithin_15
  · have h := h.2 c1
    refine gx_iload_n C hl dX11_isWithin_5 rfl ?_
    refine gx_iload_n C hl dX11_isWithin_6 rfl ?_
    refine gx_icmp_gt (tgt := 14) C rx1 rx3 dX11_isWithin_7 (by decide) (fun c2 => ?_) (fun c2 => ?_)
    · have h := h.1 c2
      refine gx_iconst C dX11_isWithin_14 ?_
      exact gx_zret C G hret (Or.inl rfl) h dX11_isWithin_15
    · have h := h.2 c2
      refine gx_iconst C dX11_isWithin_10 ?_
      refine gx_goto (tgt := 15) C dX11_isWithin_11 (by decide) ?_
      exact gx_zret C G hret (Or.inr rfl) h dX11_isWithin_15
def PT_X11_isAsker (V : Vt) (x1 : Int) (S : Me) (Q : Int → Me → Prop) : Prop := PT_X11_isWithin V x1 0 3 S (fun t2 S1 => (t2 = 0 ∨ t2 = 1) ∧ Q t2 S1)
theorem hd_X11_isAsker : yX11_isAsker.cls ≠ "java/lang/invoke/MethodHandle" ∧ yX11_isAsker.cls ≠ "java/lang/invoke/VarHandle" ∧ (parseMethodDescriptor yX11_isAsker.desc).map (fun d => d.parameters.length) = some 1 := by decide +kernel
set_option maxHeartbeats 4000000 in
set_option maxRecDepth 100000 in
theorem c_X11_isAsker (l : Launch) (D : va_G) (cy : ClassId × ClassId × ClassId × ClassId) (ad : Nat → Nat) {V : Vt} {S : Me} {x1 : Int} (rx1 : rng x1) {Q : Int → Me → Prop} (h : PT_X11_isAsker V x1 S Q) : KM l D cy yX11_isAsker cX11_isAsker 1 (Option.some Jvm.ClassFile.FieldType.boolean) 1 22 ad V S [.inl x1] (qI Q) := by
  refine KM.of (by decide) rfl (Nat.le_of_ble_eq_true rfl) (own := RX11) (fun p e s m args below meth c A ls H locs eA C hret hml hmn hl G => ?_)
  have hl : lo ad ls [some (.inl x1)] := hl
  clear eA
  unfold PT_X11_isAsker at h
  refine gx_iload_n C hl dX11_isAsker_0 rfl ?_
  refine gx_iconst C dX11_isAsker_1 ?_
  refine gx_iconst C dX11_isAsker_2 ?_
  refine gx_callS C G hl hml (c_X11_isWithin l D cy ad rx1 (show rng 0 by decide) (show rng 3 by decide) h) uw_270 uw_268 uw_269 uw_1 hd_X11_isWithin ⟨Nat.le_of_ble_eq_true rfl, Nat.le_of_ble_eq_true rfl⟩ ⟨Nat.zero_le _, Nat.zero_le _⟩ rfl rfl (hw_le ad [] rfl (Nat.le_of_ble_eq_true rfl)) dX11_isAsker_3 (kkI (fun t2 S1 H locs rt2 h G => ?_))
  obtain ⟨h3, h⟩ := h
  exact gx_zret C G hret h3 h dX11_isAsker_6
def PT_X11_isBank (V : Vt) (x1 : Int) (S : Me) (Q : Int → Me → Prop) : Prop := PT_X11_isWithin V x1 0 3 S (fun t2 S1 => (t2 = 0 ∨ t2 = 1) ∧ Q t2 S1)
theorem hd_X11_isBank : yX11_isBank.cls ≠ "java/lang/invoke/MethodHandle" ∧ yX11_isBank.cls ≠ "java/lang/invoke/VarHandle" ∧ (parseMethodDescriptor yX11_isBank.desc).map (fun d => d.parameters.length) = some 1 := by decide +kernel
set_option maxHeartbeats 4000000 in
set_option maxRecDepth 100000 in
theorem c_X11_isBank (l : Launch) (D : va_G) (cy : ClassId × ClassId × ClassId × ClassId) (ad : Nat → Nat) {V : Vt} {S : Me} {x1 : Int} (rx1 : rng x1) {Q : Int → Me → Prop} (h : PT_X11_isBank V x1 S Q) : KM l D cy yX11_isBank cX11_isBank 1 (Option.some Jvm.ClassFile.FieldType.boolean) 1 22 ad V S [.inl x1] (qI Q) := by
  refine KM.of (by decide) rfl (Nat.le_of_ble_eq_true rfl) (own := RX11) (fun p e s m args below meth c A ls H locs eA C hret hml hmn hl G => ?_)
  have hl : lo ad ls [some (.inl x1)] := hl
  clear eA
  unfold PT_X11_isBank at h
  refine gx_iload_n C hl dX11_isBank_0 rfl ?_
  refine gx_iconst C dX11_isBank_1 ?_
  refine gx_iconst C dX11_isBank_2 ?_
  refine gx_callS C G hl hml (c_X11_isWithin l D cy ad rx1 (show rng 0 by decide) (show rng 3 by decide) h) uw_270 uw_268 uw_269 uw_1 hd_X11_isWithin ⟨Nat.le_of_ble_eq_true rfl, Nat.le_of_ble_eq_true rfl⟩ ⟨Nat.zero_le _, Nat.zero_le _⟩ rfl rfl (hw_le ad [] rfl (Nat.le_of_ble_eq_true rfl)) dX11_isBank_3 (kkI (fun t2 S1 H locs rt2 h G => ?_))
  obtain ⟨h3, h⟩ := h
  exact gx_zret C G hret h3 h dX11_isBank_6
def PT_X11_isAddress (V : Vt) (x1 : Int) (S : Me) (Q : Int → Me → Prop) : Prop := PT_X11_isWithin V x1 0 1023 S (fun t2 S1 => (t2 = 0 ∨ t2 = 1) ∧ Q t2 S1)
theorem hd_X11_isAddress : yX11_isAddress.cls ≠ "java/lang/invoke/MethodHandle" ∧ yX11_isAddress.cls ≠ "java/lang/invoke/VarHandle" ∧ (parseMethodDescriptor yX11_isAddress.desc).map (fun d => d.parameters.length) = some 1 := by decide +kernel
set_option maxHeartbeats 4000000 in
set_option maxRecDepth 100000 in
theorem c_X11_isAddress (l : Launch) (D : va_G) (cy : ClassId × ClassId × ClassId × ClassId) (ad : Nat → Nat) {V : Vt} {S : Me} {x1 : Int} (rx1 : rng x1) {Q : Int → Me → Prop} (h : PT_X11_isAddress V x1 S Q) : KM l D cy yX11_isAddress cX11_isAddress 1 (Option.some Jvm.ClassFile.FieldType.boolean) 1 22 ad V S [.inl x1] (qI Q) := by
  refine KM.of (by decide) rfl (Nat.le_of_ble_eq_true rfl) (own := RX11) (fun p e s m args below meth c A ls H locs eA C hret hml hmn hl G => ?_)
  have hl : lo ad ls [some (.inl x1)] := hl
  clear eA
  unfold PT_X11_isAddress at h
  refine gx_iload_n C hl dX11_isAddress_0 rfl ?_
  refine gx_iconst C dX11_isAddress_1 ?_
  refine gx_sipush C dX11_isAddress_2 (by decide) ?_
  refine gx_callS C G hl hml (c_X11_isWithin l D cy ad rx1 (show rng 0 by decide) (show rng 1023 by decide) h) uw_270 uw_268 uw_269 uw_1 hd_X11_isWithin ⟨Nat.le_of_ble_eq_true rfl, Nat.le_of_ble_eq_true rfl⟩ ⟨Nat.zero_le _, Nat.zero_le _⟩ rfl rfl (hw_le ad [] rfl (Nat.le_of_ble_eq_true rfl)) dX11_isAddress_5 (kkI (fun t2 S1 H locs rt2 h G => ?_))
  obtain ⟨h3, h⟩ := h
  exact gx_zret C G hret h3 h dX11_isAddress_8
def PT_X11_isOctet (V : Vt) (x1 : Int) (S : Me) (Q : Int → Me → Prop) : Prop := PT_X11_isWithin V x1 0 255 S (fun t2 S1 => (t2 = 0 ∨ t2 = 1) ∧ Q t2 S1)
theorem hd_X11_isOctet : yX11_isOctet.cls ≠ "java/lang/invoke/MethodHandle" ∧ yX11_isOctet.cls ≠ "java/lang/invoke/VarHandle" ∧ (parseMethodDescriptor yX11_isOctet.desc).map (fun d => d.parameters.length) = some 1 := by decide +kernel
set_option maxHeartbeats 4000000 in
set_option maxRecDepth 100000 in
theorem c_X11_isOctet (l : Launch) (D : va_G) (cy : ClassId × ClassId × ClassId × ClassId) (ad : Nat → Nat) {V : Vt} {S : Me} {x1 : Int} (rx1 : rng x1) {Q : Int → Me → Prop} (h : PT_X11_isOctet V x1 S Q) : KM l D cy yX11_isOctet cX11_isOctet 1 (Option.some Jvm.ClassFile.FieldType.boolean) 1 22 ad V S [.inl x1] (qI Q) := by
  refine KM.of (by decide) rfl (Nat.le_of_ble_eq_true rfl) (own := RX11) (fun p e s m args below meth c A ls H locs eA C hret hml hmn hl G => ?_)
  have hl : lo ad ls [some (.inl x1)] := hl
  clear eA
  unfold PT_X11_isOctet at h
  refine gx_iload_n C hl dX11_isOctet_0 rfl ?_
  refine gx_iconst C dX11_isOctet_1 ?_
  refine gx_sipush C dX11_isOctet_2 (by decide) ?_
  refine gx_callS C G hl hml (c_X11_isWithin l D cy ad rx1 (show rng 0 by decide) (show rng 255 by decide) h) uw_270 uw_268 uw_269 uw_1 hd_X11_isWithin ⟨Nat.le_of_ble_eq_true rfl, Nat.le_of_ble_eq_true rfl⟩ ⟨Nat.zero_le _, Nat.zero_le _⟩ rfl rfl (hw_le ad [] rfl (Nat.le_of_ble_eq_true rfl)) dX11_isOctet_5 (kkI (fun t2 S1 H locs rt2 h G => ?_))
  obtain ⟨h3, h⟩ := h
  exact gx_zret C G hret h3 h dX11_isOctet_8
def PT_X11_hasSpan (V : Vt) (x1 : Option Nat) (x2 : Int) (x3 : Int) (S : Me) (Q : Int → Me → Prop) : Prop := ((x3 < 0 → Q 0 S) ∧ (¬ x3 < 0 → ∃ z2 : Nat, x1 = some z2 ∧ V.2.1 z2 = 12 ∧ PT_X11_isWithin V x2 0 (V.2.2.1 z2 : Int) S (fun t5 S4 => ((t5 = 0 → Q 0 S4) ∧ (¬ t5 = 0 → (rng ((V.2.2.1 z2 : Int) - x2)) ∧ ((((V.2.2.1 z2 : Int) - x2) < x3 → Q 0 S4) ∧ (¬ ((V.2.2.1 z2 : Int) - x2) < x3 → Q 1 S4)))))))
theorem hd_X11_hasSpan : yX11_hasSpan.cls ≠ "java/lang/invoke/MethodHandle" ∧ yX11_hasSpan.cls ≠ "java/lang/invoke/VarHandle" ∧ (parseMethodDescriptor yX11_hasSpan.desc).map (fun d => d.parameters.length) = some 3 := by decide +kernel
set_option maxHeartbeats 4000000 in
set_option maxRecDepth 100000 in
theorem c_X11_hasSpan (l : Launch) (D : va_G) (cy : ClassId × ClassId × ClassId × ClassId) (ad : Nat → Nat) {V : Vt} {S : Me} {x1 : Option Nat} {x2 : Int} {x3 : Int} (vx1 : ∀ z, x1 = some z → z < V.1) (rx2 : rng x2) (rx3 : rng x3) {Q : Int → Me → Prop} (h : PT_X11_hasSpan V x1 x2 x3 S Q) : KM l D cy yX11_hasSpan cX11_hasSpan 3 (Option.some Jvm.ClassFile.FieldType.boolean) 1 22 ad V S [.inr x1, .inl x2, .inl x3] (qI Q) := by
  refine KM.of (by decide) rfl (Nat.le_of_ble_eq_true rfl) (own := RX11) (fun p e s m args below meth c A ls H locs eA C hret hml hmn hl G => ?_)
  have hl : lo ad ls [some (.inr x1), some (.inl x2), some (.inl x3)] := hl
  clear eA
  unfold PT_X11_hasSpan at h
  refine gx_iload_n C hl dX11_hasSpan_0 rfl ?_
  refine gx_if_lt (tgt := 26) C rx3 dX11_hasSpan_1 (by decide) (fun c1 => ?_) (fun c1 => ?_)
  · have h := h.1 c1
    refine gx_iconst C dX11_hasSpan_26 ?_
    exact gx_zret C G hret (Or.inl rfl) h dX11_hasSpan_27
  · have h := h.2 c1
    refine gx_iload_n C hl dX11_hasSpan_4 rfl ?_
    refine gx_iconst C dX11_hasSpan_5 ?_
    refine gx_aload_n C hl dX11_hasSpan_6 rfl ?_
    obtain ⟨z2, hz2, tz2, h⟩ := h
    have lz2 := (vx1 z2 hz2)
    refine gx_alen C G hz2 lz2 tz2 dX11_hasSpan_7 ?_
    have r3 := G.l z2
    refine gx_callS C G hl hml (c_X11_isWithin l D cy ad rx2 (show rng 0 by decide) r3 h) uw_270 uw_268 uw_269 uw_1 hd_X11_isWithin ⟨Nat.le_of_ble_eq_true rfl, Nat.le_of_ble_eq_true rfl⟩ ⟨Nat.zero_le _, Nat.zero_le _⟩ rfl rfl (hw_le ad [] rfl (Nat.le_of_ble_eq_true rfl)) dX11_hasSpan_8 (kkI (fun t5 S4 H locs rt5 h G => ?_))
    refine gx_if_eq (tgt := 26) C rt5 dX11_hasSpan_11 (by decide) (fun c6 => ?_) (fun c6 => ?_)
    · have h := h.1 c6
      refine gx_iconst C dX11_hasSpan_26 ?_
      exact gx_zret C G hret (Or.inl rfl) h dX11_hasSpan_27
    · have h := h.2 c6
      refine gx_iload_n C hl dX11_hasSpan_14 rfl ?_
      refine gx_aload_n C hl dX11_hasSpan_15 rfl ?_
      refine gx_alen C G hz2 lz2 tz2 dX11_hasSpan_16 ?_
      have r7 := G.l z2
      refine gx_iload_n C hl dX11_hasSpan_17 rfl ?_
      obtain ⟨h8, h⟩ := h
      refine gx_isub C dX11_hasSpan_18 ?_
      refine gx_icmp_gt (tgt := 26) C rx3 h8 dX11_hasSpan_19 (by decide) (fun c9 => ?_) (fun c9 => ?_)
      · have h := h.1 c9
        refine gx_iconst C dX11_hasSpan_26 ?_
        exact gx_zret C G hret (Or.inl rfl) h dX11_hasSpan_27
      · have h := h.2 c9
        refine gx_iconst C dX11_hasSpan_22 ?_
        refine gx_goto (tgt := 27) C dX11_hasSpan_23 (by decide) ?_
        exact gx_zret C G hret (Or.inr rfl) h dX11_hasSpan_27
def B_X11_findShelf_10 (V : Vt) (o : Nat) (x1 : Int) (S : Me) (Q : Option Nat → Me → Prop) : Prop := Q none S
def PT_X11_findShelf (V : Vt) (o : Nat) (x1 : Int) (S : Me) (Q : Option Nat → Me → Prop) : Prop := ((x1 < 0 → B_X11_findShelf_10 V o x1 S Q) ∧ (¬ x1 < 0 → ((x1 < 8 → (0 ≤ x1 ∧ x1 < 8) ∧ Q (S.2 (o + 33) (Int.toNat x1)) S) ∧ (¬ x1 < 8 → B_X11_findShelf_10 V o x1 S Q))))
theorem hd_X11_findShelf : yX11_findShelf.cls ≠ "java/lang/invoke/MethodHandle" ∧ yX11_findShelf.cls ≠ "java/lang/invoke/VarHandle" ∧ (parseMethodDescriptor yX11_findShelf.desc).map (fun d => d.parameters.length) = some 1 := by decide +kernel
set_option maxHeartbeats 4000000 in
set_option maxRecDepth 100000 in
theorem c_X11_findShelf (l : Launch) (D : va_G) (cy : ClassId × ClassId × ClassId × ClassId) (ad : Nat → Nat) {V : Vt} {S : Me} {o : Nat} {x1 : Int} (hV : fX11 V o) (rx1 : rng x1) {Q : Option Nat → Me → Prop} (h : PT_X11_findShelf V o x1 S Q) : KM l D cy yX11_findShelf cX11_findShelf 2 (Option.some (Jvm.ClassFile.FieldType.object "RowBank$Shelf")) 0 0 ad V S [.inr (some o), .inl x1] (qR Q) := by
  refine KM.of (by decide) rfl (Nat.le_of_ble_eq_true rfl) (own := RX11) (fun p e s m args below meth c A ls H locs eA C hret hml hmn hl G => ?_)
  have hl : lo ad ls [some (.inr (some o)), some (.inl x1)] := hl
  have b10 : ∀ (S : Me) (H : Heap) (locs : List Loc) (ls : Array Slot), lo ad ls [some (.inr (some o)), some (.inl x1)] → Gy D cy A s.heap ad V S H locs → B_X11_findShelf_10 V o x1 S Q → W p l e (rmx 0 0) s m args below meth c H locs 0 0 (qm below D cy ad V A args s (qR Q)) (F0 m 10 ls []) := by
    intro S H locs ls hl G h
    unfold B_X11_findShelf_10 at h
    refine gx_null (ad := ad) C dX11_findShelf_10 ?_
    refine gx_goto (tgt := 20) C dX11_findShelf_11 (by decide) ?_
    exact gx_aret C G hret (Or.inl ⟨_, rfl⟩) vnone h dX11_findShelf_20
  clear eA
  unfold PT_X11_findShelf at h
  refine gx_iload_n C hl dX11_findShelf_0 rfl ?_
  refine gx_if_lt (tgt := 10) C rx1 dX11_findShelf_1 (by decide) (fun c1 => ?_) (fun c1 => ?_)
  · have h := h.1 c1
    exact b10 S H locs ls hl G h
  · have h := h.2 c1
    refine gx_iload_n C hl dX11_findShelf_4 rfl ?_
    refine gx_bipush C dX11_findShelf_5 (by decide) ?_
    refine gx_icmp_lt (tgt := 14) C rx1 (show rng 8 by decide) dX11_findShelf_7 (by decide) (fun c2 => ?_) (fun c2 => ?_)
    · have h := h.1 c2
      refine gx_aload_n C hl dX11_findShelf_14 rfl ?_
      refine gx_getF C G rfl (fX11_o hV) (fo10_5 (fX11_c hV)) (fX11_shelves hV) uw_220 (fun _ h9 => h9) dX11_findShelf_15 ?_
      refine gx_iload_n C hl dX11_findShelf_18 rfl ?_
      obtain ⟨h3, h⟩ := h
      refine gx_aald C G rfl (fX11_shelves_l hV) (Or.inr (fX11_shelves_t hV)) rx1 h3.1 (ixl (fX11_shelves_n hV) h3.2) dX11_findShelf_19 ?_
      have v4 := G.v (o + 33) (Int.toNat x1)
      exact gx_aret C G hret (Or.inl ⟨_, rfl⟩) v4 h dX11_findShelf_20
    · have h := h.2 c2
      exact b10 S H locs ls hl G h
def PT_X11_time (V : Vt) (o : Nat) (x1 : Int) (x2 : Int) (S : Me) (Q : Int → Me → Prop) : Prop := PT_X11_isWithin V x1 0 12 S (fun t2 S1 => ((t2 = 0 → Q (-1) S1) ∧ (¬ t2 = 0 → PT_X11_isWithin V x2 1 30 S1 (fun t5 S4 => ((¬ t5 = 0 → (0 ≤ x1 ∧ x1 < 13) ∧ (0 ≤ x1 ∧ x1 < 13) ∧ ∀ S10 : Me, S10 = sI S4 (o + 1) (Int.toNat x1) x2 → Q (S4.1 (o + 1) (Int.toNat x1)) S10) ∧ (t5 = 0 → Q (-1) S4))))))
theorem hd_X11_time : yX11_time.cls ≠ "java/lang/invoke/MethodHandle" ∧ yX11_time.cls ≠ "java/lang/invoke/VarHandle" ∧ (parseMethodDescriptor yX11_time.desc).map (fun d => d.parameters.length) = some 2 := by decide +kernel
set_option maxHeartbeats 4000000 in
set_option maxRecDepth 100000 in
theorem c_X11_time (l : Launch) (D : va_G) (cy : ClassId × ClassId × ClassId × ClassId) (ad : Nat → Nat) {V : Vt} {S : Me} {o : Nat} {x1 : Int} {x2 : Int} (hV : fX11 V o) (rx1 : rng x1) (rx2 : rng x2) {Q : Int → Me → Prop} (h : PT_X11_time V o x1 x2 S Q) : KM l D cy yX11_time cX11_time 4 (Option.some Jvm.ClassFile.FieldType.int) 1 22 ad V S [.inr (some o), .inl x1, .inl x2] (qI Q) := by
  refine KM.of (by decide) rfl (Nat.le_of_ble_eq_true rfl) (own := RX11) (fun p e s m args below meth c A ls H locs eA C hret hml hmn hl G => ?_)
  have hl : lo ad ls [some (.inr (some o)), some (.inl x1), some (.inl x2), none] := hl
  clear eA
  unfold PT_X11_time at h
  refine gx_iload_n C hl dX11_time_0 rfl ?_
  refine gx_iconst C dX11_time_1 ?_
  refine gx_bipush C dX11_time_2 (by decide) ?_
  refine gx_callS C G hl hml (c_X11_isWithin l D cy ad rx1 (show rng 0 by decide) (show rng 12 by decide) h) uw_270 uw_268 uw_269 uw_1 hd_X11_isWithin ⟨Nat.le_of_ble_eq_true rfl, Nat.le_of_ble_eq_true rfl⟩ ⟨Nat.zero_le _, Nat.zero_le _⟩ rfl rfl (hw_le ad [] rfl (Nat.le_of_ble_eq_true rfl)) dX11_time_4 (kkI (fun t2 S1 H locs rt2 h G => ?_))
  refine gx_if_eq (tgt := 20) C rt2 dX11_time_7 (by decide) (fun c3 => ?_) (fun c3 => ?_)
  · have h := h.1 c3
    refine gx_iconst C dX11_time_20 ?_
    exact gx_iret C G hret (show rng (-1) by decide) h dX11_time_21
  · have h := h.2 c3
    refine gx_iload_n C hl dX11_time_10 rfl ?_
    refine gx_iconst C dX11_time_11 ?_
    refine gx_bipush C dX11_time_12 (by decide) ?_
    refine gx_callS C G hl hml (c_X11_isWithin l D cy ad rx2 (show rng 1 by decide) (show rng 30 by decide) h) uw_270 uw_268 uw_269 uw_1 hd_X11_isWithin ⟨Nat.le_of_ble_eq_true rfl, Nat.le_of_ble_eq_true rfl⟩ ⟨Nat.zero_le _, Nat.zero_le _⟩ rfl rfl (hw_le ad [] rfl (Nat.le_of_ble_eq_true rfl)) dX11_time_14 (kkI (fun t5 S4 H locs rt5 h G => ?_))
    refine gx_if_ne (tgt := 22) C rt5 dX11_time_17 (by decide) (fun c6 => ?_) (fun c6 => ?_)
    · have h := h.1 c6
      refine gx_aload_n C hl dX11_time_22 rfl ?_
      refine gx_getF C G rfl (fX11_o hV) (fo10_0 (fX11_c hV)) (fX11_times hV) uw_215 (fun _ h9 => h9) dX11_time_23 ?_
      refine gx_iload_n C hl dX11_time_26 rfl ?_
      obtain ⟨h7, h⟩ := h
      refine gx_iald C G rfl (fX11_times_l hV) (fX11_times_t hV) rx1 h7.1 (ixl (fX11_times_n hV) h7.2) dX11_time_27 ?_
      have r8 := G.r (o + 1) (Int.toNat x1)
      refine gx_istore_n C hl dX11_time_28 (Nat.le_of_ble_eq_true rfl) (PL' := [some (.inr (some o)), some (.inl x1), some (.inl x2), some (.inl (S4.1 (o + 1) (Int.toNat x1)))]) rfl (fun ls hl => ?_)
      refine gx_aload_n C hl dX11_time_29 rfl ?_
      refine gx_getF C G rfl (fX11_o hV) (fo10_0 (fX11_c hV)) (fX11_times hV) uw_215 (fun _ h9 => h9) dX11_time_30 ?_
      refine gx_iload_n C hl dX11_time_33 rfl ?_
      refine gx_iload_n C hl dX11_time_34 rfl ?_
      obtain ⟨h9, h⟩ := h
      refine gx_iast C G rfl (fX11_times_l hV) (fX11_times_t hV) rx1 rx2 h9.1 (ixl (fX11_times_n hV) h9.2) dX11_time_35 (fun H locs G => ?_)
      obtain ⟨S10, eS10⟩ : ∃ q9 : Me, q9 = sI S4 (o + 1) (Int.toNat x1) x2 := ⟨_, rfl⟩
      have h := h S10 eS10
      rw [← eS10] at G
      refine gx_iload_n C hl dX11_time_36 rfl ?_
      exact gx_iret C G hret r8 h dX11_time_37
    · have h := h.2 c6
      refine gx_iconst C dX11_time_20 ?_
      exact gx_iret C G hret (show rng (-1) by decide) h dX11_time_21
def B_X11_refresh_16 (V : Vt) (o : Nat) (x1 : Int) (x2 : Int) (S : Me) (Q : Int → Me → Prop) : Prop := PT_X11_isWithin V x2 1 8 S (fun t2 S1 => ((¬ t2 = 0 → ∀ S4 : Me, S4 = sI S1 o 7 x1 → ∀ S5 : Me, S5 = sI S4 o 8 x2 → Q 0 S5) ∧ (t2 = 0 → Q (-1) S1)))
def PT_X11_refresh (V : Vt) (o : Nat) (x1 : Int) (x2 : Int) (S : Me) (Q : Int → Me → Prop) : Prop := ((x1 = 0 → B_X11_refresh_16 V o x1 x2 S Q) ∧ (¬ x1 = 0 → PT_X11_isWithin V x1 20 400 S (fun t8 S7 => ((t8 = 0 → Q (-1) S7) ∧ (¬ t8 = 0 → B_X11_refresh_16 V o x1 x2 S7 Q)))))
theorem hd_X11_refresh : yX11_refresh.cls ≠ "java/lang/invoke/MethodHandle" ∧ yX11_refresh.cls ≠ "java/lang/invoke/VarHandle" ∧ (parseMethodDescriptor yX11_refresh.desc).map (fun d => d.parameters.length) = some 2 := by decide +kernel
set_option maxHeartbeats 4000000 in
set_option maxRecDepth 100000 in
theorem c_X11_refresh (l : Launch) (D : va_G) (cy : ClassId × ClassId × ClassId × ClassId) (ad : Nat → Nat) {V : Vt} {S : Me} {o : Nat} {x1 : Int} {x2 : Int} (hV : fX11 V o) (rx1 : rng x1) (rx2 : rng x2) {Q : Int → Me → Prop} (h : PT_X11_refresh V o x1 x2 S Q) : KM l D cy yX11_refresh cX11_refresh 3 (Option.some Jvm.ClassFile.FieldType.int) 1 22 ad V S [.inr (some o), .inl x1, .inl x2] (qI Q) := by
  refine KM.of (by decide) rfl (Nat.le_of_ble_eq_true rfl) (own := RX11) (fun p e s m args below meth c A ls H locs eA C hret hml hmn hl G => ?_)
  have hl : lo ad ls [some (.inr (some o)), some (.inl x1), some (.inl x2)] := hl
  have b16 : ∀ (S : Me) (H : Heap) (locs : List Loc) (ls : Array Slot), lo ad ls [some (.inr (some o)), some (.inl x1), some (.inl x2)] → Gy D cy A s.heap ad V S H locs → B_X11_refresh_16 V o x1 x2 S Q → W p l e (rmx 1 22) s m args below meth c H locs 0 0 (qm below D cy ad V A args s (qI Q)) (F0 m 16 ls []) := by
    intro S H locs ls hl G h
    unfold B_X11_refresh_16 at h
    refine gx_iload_n C hl dX11_refresh_16 rfl ?_
    refine gx_iconst C dX11_refresh_17 ?_
    refine gx_bipush C dX11_refresh_18 (by decide) ?_
    refine gx_callS C G hl hml (c_X11_isWithin l D cy ad rx2 (show rng 1 by decide) (show rng 8 by decide) h) uw_270 uw_268 uw_269 uw_1 hd_X11_isWithin ⟨Nat.le_of_ble_eq_true rfl, Nat.le_of_ble_eq_true rfl⟩ ⟨Nat.zero_le _, Nat.zero_le _⟩ rfl rfl (hw_le ad [] rfl (Nat.le_of_ble_eq_true rfl)) dX11_refresh_20 (kkI (fun t2 S1 H locs rt2 h G => ?_))
    refine gx_if_ne (tgt := 28) C rt2 dX11_refresh_23 (by decide) (fun c3 => ?_) (fun c3 => ?_)
    · have h := h.1 c3
      refine gx_aload_n C hl dX11_refresh_28 rfl ?_
      refine gx_iload_n C hl dX11_refresh_29 rfl ?_
      refine gx_putI C G rfl (fX11_o hV) (fo10_7 (fX11_c hV)) rx1 uw_222 (fun _ h9 => h9) dX11_refresh_30 (fun H locs G => ?_)
      obtain ⟨S4, eS4⟩ : ∃ q9 : Me, q9 = sI S1 o 7 x1 := ⟨_, rfl⟩
      have h := h S4 eS4
      rw [← eS4] at G
      refine gx_aload_n C hl dX11_refresh_33 rfl ?_
      refine gx_iload_n C hl dX11_refresh_34 rfl ?_
      refine gx_putI C G rfl (fX11_o hV) (fo10_8 (fX11_c hV)) rx2 uw_223 (fun _ h9 => h9) dX11_refresh_35 (fun H locs G => ?_)
      obtain ⟨S5, eS5⟩ : ∃ q9 : Me, q9 = sI S4 o 8 x2 := ⟨_, rfl⟩
      have h := h S5 eS5
      rw [← eS5] at G
      refine gx_iconst C dX11_refresh_38 ?_
      exact gx_iret C G hret (show rng 0 by decide) h dX11_refresh_39
    · have h := h.2 c3
      refine gx_iconst C dX11_refresh_26 ?_
      exact gx_iret C G hret (show rng (-1) by decide) h dX11_refresh_27
  clear eA
  unfold PT_X11_refresh at h
  refine gx_iload_n C hl dX11_refresh_0 rfl ?_
  refine gx_if_eq (tgt := 16) C rx1 dX11_refresh_1 (by decide) (fun c6 => ?_) (fun c6 => ?_)
  · have h := h.1 c6
    exact b16 S H locs ls hl G h
  · have h := h.2 c6
    refine gx_iload_n C hl dX11_refresh_4 rfl ?_
    refine gx_bipush C dX11_refresh_5 (by decide) ?_
    refine gx_sipush C dX11_refresh_7 (by decide) ?_
    refine gx_callS C G hl hml (c_X11_isWithin l D cy ad rx1 (show rng 20 by decide) (show rng 400 by decide) h) uw_270 uw_268 uw_269 uw_1 hd_X11_isWithin ⟨Nat.le_of_ble_eq_true rfl, Nat.le_of_ble_eq_true rfl⟩ ⟨Nat.zero_le _, Nat.zero_le _⟩ rfl rfl (hw_le ad [] rfl (Nat.le_of_ble_eq_true rfl)) dX11_refresh_10 (kkI (fun t8 S7 H locs rt8 h G => ?_))
    refine gx_if_eq (tgt := 26) C rt8 dX11_refresh_13 (by decide) (fun c9 => ?_) (fun c9 => ?_)
    · have h := h.1 c9
      refine gx_iconst C dX11_refresh_26 ?_
      exact gx_iret C G hret (show rng (-1) by decide) h dX11_refresh_27
    · have h := h.2 c9
      exact b16 S7 H locs ls hl G h
def PT_X11_order (V : Vt) (o : Nat) (x1 : Int) (x2 : Int) (S : Me) (Q : Int → Me → Prop) : Prop := PT_X11_isWithin V x1 0 2 S (fun t2 S1 => ((t2 = 0 → Q (-1) S1) ∧ (¬ t2 = 0 → PT_X11_isWithin V x2 1 20 S1 (fun t5 S4 => ((¬ t5 = 0 → ∀ S7 : Me, S7 = sI S4 o 10 x1 → ∀ S8 : Me, S8 = sI S7 o 11 x2 → Q 0 S8) ∧ (t5 = 0 → Q (-1) S4))))))
theorem hd_X11_order : yX11_order.cls ≠ "java/lang/invoke/MethodHandle" ∧ yX11_order.cls ≠ "java/lang/invoke/VarHandle" ∧ (parseMethodDescriptor yX11_order.desc).map (fun d => d.parameters.length) = some 2 := by decide +kernel
set_option maxHeartbeats 4000000 in
set_option maxRecDepth 100000 in
theorem c_X11_order (l : Launch) (D : va_G) (cy : ClassId × ClassId × ClassId × ClassId) (ad : Nat → Nat) {V : Vt} {S : Me} {o : Nat} {x1 : Int} {x2 : Int} (hV : fX11 V o) (rx1 : rng x1) (rx2 : rng x2) {Q : Int → Me → Prop} (h : PT_X11_order V o x1 x2 S Q) : KM l D cy yX11_order cX11_order 3 (Option.some Jvm.ClassFile.FieldType.int) 1 22 ad V S [.inr (some o), .inl x1, .inl x2] (qI Q) := by
  refine KM.of (by decide) rfl (Nat.le_of_ble_eq_true rfl) (own := RX11) (fun p e s m args below meth c A ls H locs eA C hret hml hmn hl G => ?_)
  have hl : lo ad ls [some (.inr (some o)), some (.inl x1), some (.inl x2)] := hl
  clear eA
  unfold PT_X11_order at h
  refine gx_iload_n C hl dX11_order_0 rfl ?_
  refine gx_iconst C dX11_order_1 ?_
  refine gx_iconst C dX11_order_2 ?_
  refine gx_callS C G hl hml (c_X11_isWithin l D cy ad rx1 (show rng 0 by decide) (show rng 2 by decide) h) uw_270 uw_268 uw_269 uw_1 hd_X11_isWithin ⟨Nat.le_of_ble_eq_true rfl, Nat.le_of_ble_eq_true rfl⟩ ⟨Nat.zero_le _, Nat.zero_le _⟩ rfl rfl (hw_le ad [] rfl (Nat.le_of_ble_eq_true rfl)) dX11_order_3 (kkI (fun t2 S1 H locs rt2 h G => ?_))
  refine gx_if_eq (tgt := 19) C rt2 dX11_order_6 (by decide) (fun c3 => ?_) (fun c3 => ?_)
  · have h := h.1 c3
    refine gx_iconst C dX11_order_19 ?_
    exact gx_iret C G hret (show rng (-1) by decide) h dX11_order_20
  · have h := h.2 c3
    refine gx_iload_n C hl dX11_order_9 rfl ?_
    refine gx_iconst C dX11_order_10 ?_
    refine gx_bipush C dX11_order_11 (by decide) ?_
    refine gx_callS C G hl hml (c_X11_isWithin l D cy ad rx2 (show rng 1 by decide) (show rng 20 by decide) h) uw_270 uw_268 uw_269 uw_1 hd_X11_isWithin ⟨Nat.le_of_ble_eq_true rfl, Nat.le_of_ble_eq_true rfl⟩ ⟨Nat.zero_le _, Nat.zero_le _⟩ rfl rfl (hw_le ad [] rfl (Nat.le_of_ble_eq_true rfl)) dX11_order_13 (kkI (fun t5 S4 H locs rt5 h G => ?_))
    refine gx_if_ne (tgt := 21) C rt5 dX11_order_16 (by decide) (fun c6 => ?_) (fun c6 => ?_)
    · have h := h.1 c6
      refine gx_aload_n C hl dX11_order_21 rfl ?_
      refine gx_iload_n C hl dX11_order_22 rfl ?_
      refine gx_putI C G rfl (fX11_o hV) (fo10_10 (fX11_c hV)) rx1 uw_225 (fun _ h9 => h9) dX11_order_23 (fun H locs G => ?_)
      obtain ⟨S7, eS7⟩ : ∃ q9 : Me, q9 = sI S4 o 10 x1 := ⟨_, rfl⟩
      have h := h S7 eS7
      rw [← eS7] at G
      refine gx_aload_n C hl dX11_order_26 rfl ?_
      refine gx_iload_n C hl dX11_order_27 rfl ?_
      refine gx_putI C G rfl (fX11_o hV) (fo10_11 (fX11_c hV)) rx2 uw_226 (fun _ h9 => h9) dX11_order_28 (fun H locs G => ?_)
      obtain ⟨S8, eS8⟩ : ∃ q9 : Me, q9 = sI S7 o 11 x2 := ⟨_, rfl⟩
      have h := h S8 eS8
      rw [← eS8] at G
      refine gx_iconst C dX11_order_31 ?_
      exact gx_iret C G hret (show rng 0 by decide) h dX11_order_32
    · have h := h.2 c6
      refine gx_iconst C dX11_order_19 ?_
      exact gx_iret C G hret (show rng (-1) by decide) h dX11_order_20
def B_X11_owedThisTick_28 (V : Vt) (o : Nat) (S : Me) (Q : Int → Me → Prop) : Prop := Q (S.1 o 9) S
def PT_X11_owedThisTick (V : Vt) (o : Nat) (S : Me) (Q : Int → Me → Prop) : Prop := (((S.1 o 7) = 0 → B_X11_owedThisTick_28 V o S Q) ∧ (¬ (S.1 o 7) = 0 → ((S.1 o 7) ≠ 0) ∧ ((¬ (Int.tmod (S.1 o 6) (S.1 o 7)) = 0 → B_X11_owedThisTick_28 V o S Q) ∧ ((Int.tmod (S.1 o 6) (S.1 o 7)) = 0 → (rng ((S.1 o 9) + 1)) ∧ Q ((S.1 o 9) + 1) S))))
theorem hd_X11_owedThisTick : yX11_owedThisTick.cls ≠ "java/lang/invoke/MethodHandle" ∧ yX11_owedThisTick.cls ≠ "java/lang/invoke/VarHandle" ∧ (parseMethodDescriptor yX11_owedThisTick.desc).map (fun d => d.parameters.length) = some 0 := by decide +kernel
set_option maxHeartbeats 4000000 in
set_option maxRecDepth 100000 in
theorem c_X11_owedThisTick (l : Launch) (D : va_G) (cy : ClassId × ClassId × ClassId × ClassId) (ad : Nat → Nat) {V : Vt} {S : Me} {o : Nat} (hV : fX11 V o) {Q : Int → Me → Prop} (h : PT_X11_owedThisTick V o S Q) : KM l D cy yX11_owedThisTick cX11_owedThisTick 1 (Option.some Jvm.ClassFile.FieldType.int) 0 0 ad V S [.inr (some o)] (qI Q) := by
  refine KM.of (by decide) rfl (Nat.le_of_ble_eq_true rfl) (own := RX11) (fun p e s m args below meth c A ls H locs eA C hret hml hmn hl G => ?_)
  have hl : lo ad ls [some (.inr (some o))] := hl
  have b28 : ∀ (S : Me) (H : Heap) (locs : List Loc) (ls : Array Slot), lo ad ls [some (.inr (some o))] → Gy D cy A s.heap ad V S H locs → B_X11_owedThisTick_28 V o S Q → W p l e (rmx 0 0) s m args below meth c H locs 0 0 (qm below D cy ad V A args s (qI Q)) (F0 m 28 ls []) := by
    intro S H locs ls hl G h
    unfold B_X11_owedThisTick_28 at h
    refine gx_aload_n C hl dX11_owedThisTick_28 rfl ?_
    refine gx_getI C G rfl (fX11_o hV) (fo10_9 (fX11_c hV)) uw_224 (fun _ h9 => h9) dX11_owedThisTick_29 ?_
    have r1 := G.r o 9
    exact gx_iret C G hret r1 h dX11_owedThisTick_32
  clear eA
  unfold PT_X11_owedThisTick at h
  refine gx_aload_n C hl dX11_owedThisTick_0 rfl ?_
  refine gx_getI C G rfl (fX11_o hV) (fo10_7 (fX11_c hV)) uw_222 (fun _ h9 => h9) dX11_owedThisTick_1 ?_
  have r2 := G.r o 7
  refine gx_if_eq (tgt := 28) C r2 dX11_owedThisTick_4 (by decide) (fun c3 => ?_) (fun c3 => ?_)
  · have h := h.1 c3
    exact b28 S H locs ls hl G h
  · have h := h.2 c3
    refine gx_aload_n C hl dX11_owedThisTick_7 rfl ?_
    refine gx_getI C G rfl (fX11_o hV) (fo10_6 (fX11_c hV)) uw_221 (fun _ h9 => h9) dX11_owedThisTick_8 ?_
    have r4 := G.r o 6
    refine gx_aload_n C hl dX11_owedThisTick_11 rfl ?_
    refine gx_getI C G rfl (fX11_o hV) (fo10_7 (fX11_c hV)) uw_222 (fun _ h9 => h9) dX11_owedThisTick_12 ?_
    have r5 := G.r o 7
    obtain ⟨h6, h⟩ := h
    refine gx_irem C r4 r5 h6 dX11_owedThisTick_15 ?_
    refine gx_if_ne (tgt := 28) C (rg_md r4) dX11_owedThisTick_16 (by decide) (fun c7 => ?_) (fun c7 => ?_)
    · have h := h.1 c7
      exact b28 S H locs ls hl G h
    · have h := h.2 c7
      refine gx_aload_n C hl dX11_owedThisTick_19 rfl ?_
      refine gx_getI C G rfl (fX11_o hV) (fo10_9 (fX11_c hV)) uw_224 (fun _ h9 => h9) dX11_owedThisTick_20 ?_
      have r8 := G.r o 9
      refine gx_iconst C dX11_owedThisTick_23 ?_
      obtain ⟨h9, h⟩ := h
      refine gx_iadd C dX11_owedThisTick_24 ?_
      refine gx_goto (tgt := 32) C dX11_owedThisTick_25 (by decide) ?_
      exact gx_iret C G hret h9 h dX11_owedThisTick_32
def PT_X11_canGo (V : Vt) (o : Nat) (x1 : Int) (x2 : Int) (S : Me) (Q : Int → Me → Prop) : Prop := PT_X4_allows V (o + 25) x1 x2 S (fun t2 S1 => ((t2 = 0 → Q 0 S1) ∧ (¬ t2 = 0 → PT_X5_leastTick V (o + 2) (some (o + 1)) x1 x2 S1 (fun t5 S4 => (((S4.1 o 6) < t5 → Q 0 S4) ∧ (¬ (S4.1 o 6) < t5 → Q 1 S4))))))
theorem hd_X11_canGo : yX11_canGo.cls ≠ "java/lang/invoke/MethodHandle" ∧ yX11_canGo.cls ≠ "java/lang/invoke/VarHandle" ∧ (parseMethodDescriptor yX11_canGo.desc).map (fun d => d.parameters.length) = some 2 := by decide +kernel
set_option maxHeartbeats 4000000 in
set_option maxRecDepth 100000 in
theorem c_X11_canGo (l : Launch) (D : va_G) (cy : ClassId × ClassId × ClassId × ClassId) (ad : Nat → Nat) {V : Vt} {S : Me} {o : Nat} {x1 : Int} {x2 : Int} (hV : fX11 V o) (rx1 : rng x1) (rx2 : rng x2) {Q : Int → Me → Prop} (h : PT_X11_canGo V o x1 x2 S Q) : KM l D cy yX11_canGo cX11_canGo 3 (Option.some Jvm.ClassFile.FieldType.boolean) 2 49 ad V S [.inr (some o), .inl x1, .inl x2] (qI Q) := by
  refine KM.of (by decide) rfl (Nat.le_of_ble_eq_true rfl) (own := RX11) (fun p e s m args below meth c A ls H locs eA C hret hml hmn hl G => ?_)
  have hl : lo ad ls [some (.inr (some o)), some (.inl x1), some (.inl x2)] := hl
  clear eA
  unfold PT_X11_canGo at h
  refine gx_aload_n C hl dX11_canGo_0 rfl ?_
  refine gx_getF C G rfl (fX11_o hV) (fo10_3 (fX11_c hV)) (fX11_memory hV) uw_218 (fun _ h9 => h9) dX11_canGo_1 ?_
  refine gx_iload_n C hl dX11_canGo_4 rfl ?_
  refine gx_iload_n C hl dX11_canGo_5 rfl ?_
  refine gx_callV C G hl hml (c_X4_allows l D cy ad (fX11_memory_s hV) rx1 rx2 h) rfl (fX4_o (fX11_memory_s hV)) (by rw [(fX4_c (fX11_memory_s hV))]; rfl) (by rw [(fX4_c (fX11_memory_s hV))]; decide) rfl uw_533 uw_530 uw_531 uw_532 uw_5 hd_X4_allows ⟨Nat.le_of_ble_eq_true rfl, Nat.le_of_ble_eq_true rfl⟩ ⟨Nat.zero_le _, Nat.zero_le _⟩ rfl rfl (hw_le ad [] rfl (Nat.le_of_ble_eq_true rfl)) dX11_canGo_6 (kkI (fun t2 S1 H locs rt2 h G => ?_))
  refine gx_if_eq (tgt := 36) C rt2 dX11_canGo_9 (by decide) (fun c3 => ?_) (fun c3 => ?_)
  · have h := h.1 c3
    refine gx_iconst C dX11_canGo_36 ?_
    exact gx_zret C G hret (Or.inl rfl) h dX11_canGo_37
  · have h := h.2 c3
    refine gx_aload_n C hl dX11_canGo_12 rfl ?_
    refine gx_getF C G rfl (fX11_o hV) (fo10_1 (fX11_c hV)) (fX11_past hV) uw_216 (fun _ h9 => h9) dX11_canGo_13 ?_
    refine gx_aload_n C hl dX11_canGo_16 rfl ?_
    refine gx_getF C G rfl (fX11_o hV) (fo10_0 (fX11_c hV)) (fX11_times hV) uw_215 (fun _ h9 => h9) dX11_canGo_17 ?_
    refine gx_iload_n C hl dX11_canGo_20 rfl ?_
    refine gx_iload_n C hl dX11_canGo_21 rfl ?_
    refine gx_callV C G hl hml (c_X5_leastTick l D cy ad (fX11_past_s hV) (vsome (fX11_times_l hV)) rx1 rx2 h) rfl (fX5_o (fX11_past_s hV)) (by rw [(fX5_c (fX11_past_s hV))]; rfl) (by rw [(fX5_c (fX11_past_s hV))]; decide) rfl uw_541 uw_538 uw_539 uw_540 uw_2 hd_X5_leastTick ⟨Nat.le_of_ble_eq_true rfl, Nat.le_of_ble_eq_true rfl⟩ ⟨Nat.zero_le _, Nat.zero_le _⟩ rfl rfl (hw_le ad [] rfl (Nat.le_of_ble_eq_true rfl)) dX11_canGo_22 (kkI (fun t5 S4 H locs rt5 h G => ?_))
    refine gx_aload_n C hl dX11_canGo_25 rfl ?_
    refine gx_getI C G rfl (fX11_o hV) (fo10_6 (fX11_c hV)) uw_221 (fun _ h9 => h9) dX11_canGo_26 ?_
    have r6 := G.r o 6
    refine gx_icmp_gt (tgt := 36) C rt5 r6 dX11_canGo_29 (by decide) (fun c7 => ?_) (fun c7 => ?_)
    · have h := h.1 c7
      refine gx_iconst C dX11_canGo_36 ?_
      exact gx_zret C G hret (Or.inl rfl) h dX11_canGo_37
    · have h := h.2 c7
      refine gx_iconst C dX11_canGo_32 ?_
      refine gx_goto (tgt := 37) C dX11_canGo_33 (by decide) ?_
      exact gx_zret C G hret (Or.inr rfl) h dX11_canGo_37
def B_X11_chooseForRefresh_13 (V : Vt) (o : Nat) (Q : Int → Me → Prop) : Nat → (Int → Me → Prop)
  | 0 => fun _ _ => False
  | n + 1 => fun y1 S => ((4 ≤ y1 → Q (-2) S) ∧ (¬ 4 ≤ y1 → PT_X11_canGo V o 1 y1 S (fun t3 S2 => ((t3 = 0 → (rng (y1 + 1)) ∧ B_X11_chooseForRefresh_13 V o Q n (y1 + 1) S2) ∧ (¬ t3 = 0 → ∀ S6 : Me, S6 = sI S2 o 14 y1 → Q 1 S6)))))
def PT_X11_chooseForRefresh (V : Vt) (o : Nat) (S : Me) (Q : Int → Me → Prop) : Prop := PT_X11_canGo V o 4 0 S (fun t8 S7 => ((t8 = 0 → (∃ n9 : Nat, B_X11_chooseForRefresh_13 V o Q n9 0 S7)) ∧ (¬ t8 = 0 → Q 4 S7)))
theorem hd_X11_chooseForRefresh : yX11_chooseForRefresh.cls ≠ "java/lang/invoke/MethodHandle" ∧ yX11_chooseForRefresh.cls ≠ "java/lang/invoke/VarHandle" ∧ (parseMethodDescriptor yX11_chooseForRefresh.desc).map (fun d => d.parameters.length) = some 0 := by decide +kernel
set_option maxHeartbeats 4000000 in
set_option maxRecDepth 100000 in
theorem c_X11_chooseForRefresh (l : Launch) (D : va_G) (cy : ClassId × ClassId × ClassId × ClassId) (ad : Nat → Nat) {V : Vt} {S : Me} {o : Nat} (hV : fX11 V o) {Q : Int → Me → Prop} (h : PT_X11_chooseForRefresh V o S Q) : KM l D cy yX11_chooseForRefresh cX11_chooseForRefresh 2 (Option.some Jvm.ClassFile.FieldType.int) 3 71 ad V S [.inr (some o)] (qI Q) := by
  refine KM.of (by decide) rfl (Nat.le_of_ble_eq_true rfl) (own := RX11) (fun p e s m args below meth c A ls H locs eA C hret hml hmn hl G => ?_)
  have hl : lo ad ls [some (.inr (some o)), none] := hl
  have b13 : ∀ (n : Nat) (y1 : Int) (S : Me) (H : Heap) (locs : List Loc) (ls : Array Slot), rng y1 → lo ad ls [some (.inr (some o)), some (.inl y1)] → Gy D cy A s.heap ad V S H locs → B_X11_chooseForRefresh_13 V o Q n y1 S → W p l e (rmx 3 71) s m args below meth c H locs 0 0 (qm below D cy ad V A args s (qI Q)) (F0 m 13 ls []) := by
    intro n
    induction n with
    | zero =>
      intro y1 S H locs ls ry1 hl G h
      exact absurd h id
    | succ n ih =>
      intro y1 S H locs ls ry1 hl G h
      rw [B_X11_chooseForRefresh_13] at h
      refine gx_iload_n C hl dX11_chooseForRefresh_13 rfl ?_
      refine gx_iconst C dX11_chooseForRefresh_14 ?_
      refine gx_icmp_ge (tgt := 40) C ry1 (show rng 4 by decide) dX11_chooseForRefresh_15 (by decide) (fun c1 => ?_) (fun c1 => ?_)
      · have h := h.1 c1
        refine gx_bipush C dX11_chooseForRefresh_40 (by decide) ?_
        exact gx_iret C G hret (show rng (-2) by decide) h dX11_chooseForRefresh_42
      · have h := h.2 c1
        refine gx_aload_n C hl dX11_chooseForRefresh_18 rfl ?_
        refine gx_iconst C dX11_chooseForRefresh_19 ?_
        refine gx_iload_n C hl dX11_chooseForRefresh_20 rfl ?_
        refine gx_callV C G hl hml (c_X11_canGo l D cy ad hV (show rng 1 by decide) ry1 h) rfl (fX11_o hV) (by rw [(fX11_c hV)]; rfl) (by rw [(fX11_c hV)]; decide) rfl uw_529 uw_526 uw_528 up_6 uw_1 hd_X11_canGo ⟨Nat.le_of_ble_eq_true rfl, Nat.le_of_ble_eq_true rfl⟩ ⟨Nat.zero_le _, Nat.zero_le _⟩ rfl rfl (hw_le ad [] rfl (Nat.le_of_ble_eq_true rfl)) dX11_chooseForRefresh_21 (kkI (fun t3 S2 H locs rt3 h G => ?_))
        refine gx_if_eq (tgt := 34) C rt3 dX11_chooseForRefresh_24 (by decide) (fun c4 => ?_) (fun c4 => ?_)
        · have h := h.1 c4
          obtain ⟨h5, h⟩ := h
          refine gx_iinc C hl dX11_chooseForRefresh_34 rfl (PL' := [some (.inr (some o)), some (.inl (y1 + 1))]) rfl (fun ls hl => ?_)
          refine gx_goto (tgt := 13) C dX11_chooseForRefresh_37 (by decide) ?_
          exact ih (y1 + 1) S2 H locs ls h5 hl G h
        · have h := h.2 c4
          refine gx_aload_n C hl dX11_chooseForRefresh_27 rfl ?_
          refine gx_iload_n C hl dX11_chooseForRefresh_28 rfl ?_
          refine gx_putI C G rfl (fX11_o hV) (fo10_14 (fX11_c hV)) ry1 uw_229 (fun _ h9 => h9) dX11_chooseForRefresh_29 (fun H locs G => ?_)
          obtain ⟨S6, eS6⟩ : ∃ q9 : Me, q9 = sI S2 o 14 y1 := ⟨_, rfl⟩
          have h := h S6 eS6
          rw [← eS6] at G
          refine gx_iconst C dX11_chooseForRefresh_32 ?_
          exact gx_iret C G hret (show rng 1 by decide) h dX11_chooseForRefresh_33
  clear eA
  unfold PT_X11_chooseForRefresh at h
  refine gx_aload_n C hl dX11_chooseForRefresh_0 rfl ?_
  refine gx_iconst C dX11_chooseForRefresh_1 ?_
  refine gx_iconst C dX11_chooseForRefresh_2 ?_
  refine gx_callV C G hl hml (c_X11_canGo l D cy ad hV (show rng 4 by decide) (show rng 0 by decide) h) rfl (fX11_o hV) (by rw [(fX11_c hV)]; rfl) (by rw [(fX11_c hV)]; decide) rfl uw_529 uw_526 uw_528 up_6 uw_1 hd_X11_canGo ⟨Nat.le_of_ble_eq_true rfl, Nat.le_of_ble_eq_true rfl⟩ ⟨Nat.zero_le _, Nat.zero_le _⟩ rfl rfl (hw_le ad [] rfl (Nat.le_of_ble_eq_true rfl)) dX11_chooseForRefresh_3 (kkI (fun t8 S7 H locs rt8 h G => ?_))
  refine gx_if_eq (tgt := 11) C rt8 dX11_chooseForRefresh_6 (by decide) (fun c9 => ?_) (fun c9 => ?_)
  · have h := h.1 c9
    refine gx_iconst C dX11_chooseForRefresh_11 ?_
    refine gx_istore_n C hl dX11_chooseForRefresh_12 (Nat.le_of_ble_eq_true rfl) (PL' := [some (.inr (some o)), some (.inl 0)]) rfl (fun ls hl => ?_)
    obtain ⟨n9, h⟩ := h
    exact b13 n9 0 S7 H locs ls (show rng 0 by decide) hl G h
  · have h := h.2 c9
    refine gx_iconst C dX11_chooseForRefresh_9 ?_
    exact gx_iret C G hret (show rng 4 by decide) h dX11_chooseForRefresh_10
def B_X11_chooseForAsks_138 (V : Vt) (o : Nat) (K24 : Int → Option Nat → Me → Prop) (y1 : Int) (y3 : Option Nat) (S : Me) (Q : Int → Me → Prop) : Prop := ∃ z1 : Nat, y3 = some z1 ∧ isA (V.2.1 z1) ∧ K24 y1 (S.2 z1 9) S
def B_X11_chooseForAsks_102 (V : Vt) (o : Nat) (K24 : Int → Option Nat → Me → Prop) (y1 : Int) (y3 : Option Nat) (y5 : Int) (w0 : Int) (S : Me) (Q : Int → Me → Prop) : Prop := ((w0 = 0 → B_X11_chooseForAsks_138 V o K24 y1 y3 S Q) ∧ (¬ w0 = 0 → ∃ z4 : Nat, y3 = some z4 ∧ isA (V.2.1 z4) ∧ PT_X11_canGo V o y5 (S.1 z4 3) S (fun t7 S6 => ((t7 = 0 → B_X11_chooseForAsks_138 V o K24 y1 y3 S6 Q) ∧ (¬ t7 = 0 → ∀ S10 : Me, S10 = sI S6 o 14 (S6.1 z4 3) → ∀ S11 : Me, S11 = sP S10 o 15 y3 → Q y5 S11)))))
def B_X11_chooseForAsks_97 (V : Vt) (o : Nat) (K24 : Int → Option Nat → Me → Prop) (y1 : Int) (y3 : Option Nat) (y5 : Int) (S : Me) (Q : Int → Me → Prop) : Prop := B_X11_chooseForAsks_102 V o K24 y1 y3 y5 1 S Q
def B_X11_chooseForAsks_59 (V : Vt) (o : Nat) (K24 : Int → Option Nat → Me → Prop) (y1 : Int) (y3 : Option Nat) (w0 : Int) (S : Me) (Q : Int → Me → Prop) : Prop := ∃ z12 : Nat, y3 = some z12 ∧ isA (V.2.1 z12) ∧ PT_X4_stepToward V (o + 25) y3 S (fun t15 S14 => ((¬ w0 = 0 → B_X11_chooseForAsks_97 V o K24 (bOr y1 (bShl 1 (S.1 z12 3))) y3 t15 S14 Q) ∧ (w0 = 0 → ((t15 = 2 → B_X11_chooseForAsks_97 V o K24 (bOr y1 (bShl 1 (S.1 z12 3))) y3 t15 S14 Q) ∧ (¬ t15 = 2 → ((¬ t15 = 3 → B_X11_chooseForAsks_102 V o K24 (bOr y1 (bShl 1 (S.1 z12 3))) y3 t15 0 S14 Q) ∧ (t15 = 3 → B_X11_chooseForAsks_97 V o K24 (bOr y1 (bShl 1 (S.1 z12 3))) y3 t15 S14 Q)))))))
def B_X11_chooseForAsks_24 (V : Vt) (o : Nat) (Q : Int → Me → Prop) : Nat → (Int → Option Nat → Me → Prop)
  | 0 => fun _ _ _ => False
  | n + 1 => fun y1 y3 S => ((y3 = none → Q (-2) S) ∧ (¬ y3 = none → PT_X7_isHeld V (o + 28) y3 0 S (fun t21 S20 => ((t21 = 0 → ∃ z23 : Nat, y3 = some z23 ∧ isA (V.2.1 z23) ∧ ((¬ (bAnd (bShr y1 (S20.1 z23 3)) 1) = 0 → B_X11_chooseForAsks_59 V o (B_X11_chooseForAsks_24 V o Q n) y1 y3 0 S20 Q) ∧ ((bAnd (bShr y1 (S20.1 z23 3)) 1) = 0 → B_X11_chooseForAsks_59 V o (B_X11_chooseForAsks_24 V o Q n) y1 y3 1 S20 Q))) ∧ (¬ t21 = 0 → B_X11_chooseForAsks_138 V o (B_X11_chooseForAsks_24 V o Q n) y1 y3 S20 Q)))))
def PT_X11_chooseForAsks (V : Vt) (o : Nat) (S : Me) (Q : Int → Me → Prop) : Prop := PT_X7_arrange V (o + 28) (S.1 o 10) (S.1 o 11) (some (o + 25)) S (fun t29 S28 => (∃ n9 : Nat, B_X11_chooseForAsks_24 V o Q n9 0 t29 S28))
theorem hd_X11_chooseForAsks : yX11_chooseForAsks.cls ≠ "java/lang/invoke/MethodHandle" ∧ yX11_chooseForAsks.cls ≠ "java/lang/invoke/VarHandle" ∧ (parseMethodDescriptor yX11_chooseForAsks.desc).map (fun d => d.parameters.length) = some 0 := by decide +kernel
set_option maxHeartbeats 4000000 in
set_option maxRecDepth 100000 in
theorem c_X11_chooseForAsks (l : Launch) (D : va_G) (cy : ClassId × ClassId × ClassId × ClassId) (ad : Nat → Nat) {V : Vt} {S : Me} {o : Nat} (hV : fX11 V o) {Q : Int → Me → Prop} (h : PT_X11_chooseForAsks V o S Q) : KM l D cy yX11_chooseForAsks cX11_chooseForAsks 7 (Option.some Jvm.ClassFile.FieldType.int) 3 71 ad V S [.inr (some o)] (qI Q) := by
  refine KM.of (by decide) rfl (Nat.le_of_ble_eq_true rfl) (own := RX11) (fun p e s m args below meth c A ls H locs eA C hret hml hmn hl G => ?_)
  have hl : lo ad ls [some (.inr (some o)), none, none, none, none, none, none] := hl
  have b138 : ∀ (K24 : Int → Option Nat → Me → Prop) (hK24 : ∀ (y1 : Int) (y3 : Option Nat) (S : Me) (H : Heap) (locs : List Loc) (ls : Array Slot), rng y1 → (∀ z, y3 = some z → z < V.1) → lo ad ls [some (.inr (some o)), some (.inl y1), none, some (.inr y3), none, none, none] → Gy D cy A s.heap ad V S H locs → K24 y1 y3 S → W p l e (rmx 3 71) s m args below meth c H locs 0 0 (qm below D cy ad V A args s (qI Q)) (F0 m 24 ls [])) (y1 : Int) (y3 : Option Nat) (S : Me) (H : Heap) (locs : List Loc) (ls : Array Slot), rng y1 → (∀ z, y3 = some z → z < V.1) → lo ad ls [some (.inr (some o)), some (.inl y1), none, some (.inr y3), none, none, none] → Gy D cy A s.heap ad V S H locs → B_X11_chooseForAsks_138 V o K24 y1 y3 S Q → W p l e (rmx 3 71) s m args below meth c H locs 0 0 (qm below D cy ad V A args s (qI Q)) (F0 m 138 ls []) := by
    intro K24 hK24 y1 y3 S H locs ls ry1 vy3 hl G h
    unfold B_X11_chooseForAsks_138 at h
    refine gx_aload_n C hl dX11_chooseForAsks_138 rfl ?_
    obtain ⟨z1, hz1, tz1, h⟩ := h
    have lz1 := (vy3 z1 hz1)
    refine gx_getP C G hz1 lz1 (foA_9 tz1) uw_340 (fun _ h9 => h9) dX11_chooseForAsks_139 ?_
    have v2 := G.v z1 9
    refine gx_astore_n C hl dX11_chooseForAsks_142 (Nat.le_of_ble_eq_true rfl) (PL' := [some (.inr (some o)), some (.inl y1), none, some (.inr (S.2 z1 9)), none, none, none]) rfl (fun ls hl => ?_)
    refine gx_goto (tgt := 24) C dX11_chooseForAsks_143 (by decide) ?_
    exact hK24 y1 (S.2 z1 9) S H locs ls ry1 v2 hl G h
  have b102 : ∀ (K24 : Int → Option Nat → Me → Prop) (hK24 : ∀ (y1 : Int) (y3 : Option Nat) (S : Me) (H : Heap) (locs : List Loc) (ls : Array Slot), rng y1 → (∀ z, y3 = some z → z < V.1) → lo ad ls [some (.inr (some o)), some (.inl y1), none, some (.inr y3), none, none, none] → Gy D cy A s.heap ad V S H locs → K24 y1 y3 S → W p l e (rmx 3 71) s m args below meth c H locs 0 0 (qm below D cy ad V A args s (qI Q)) (F0 m 24 ls [])) (y1 : Int) (y3 : Option Nat) (y5 : Int) (w0 : Int) (S : Me) (H : Heap) (locs : List Loc) (ls : Array Slot), rng y1 → (∀ z, y3 = some z → z < V.1) → rng y5 → rng w0 → lo ad ls [some (.inr (some o)), some (.inl y1), none, some (.inr y3), none, some (.inl y5), none] → Gy D cy A s.heap ad V S H locs → B_X11_chooseForAsks_102 V o K24 y1 y3 y5 w0 S Q → W p l e (rmx 3 71) s m args below meth c H locs 0 0 (qm below D cy ad V A args s (qI Q)) (F0 m 102 ls [vI w0]) := by
    intro K24 hK24 y1 y3 y5 w0 S H locs ls ry1 vy3 ry5 rw0 hl G h
    unfold B_X11_chooseForAsks_102 at h
    refine gx_istore C hl dX11_chooseForAsks_102 (Nat.le_of_ble_eq_true rfl) (PL' := [some (.inr (some o)), some (.inl y1), none, some (.inr y3), none, some (.inl y5), some (.inl w0)]) rfl (fun ls hl => ?_)
    refine gx_iload C hl dX11_chooseForAsks_104 rfl ?_
    refine gx_if_eq (tgt := 138) C rw0 dX11_chooseForAsks_106 (by decide) (fun c3 => ?_) (fun c3 => ?_)
    · have h := h.1 c3
      exact b138 K24 hK24 y1 y3 S H locs ls ry1 vy3 (lo_mask (bs := [true, true, false, true, false, false, false]) hl rfl rfl) G h
    · have h := h.2 c3
      refine gx_aload_n C hl dX11_chooseForAsks_109 rfl ?_
      refine gx_iload C hl dX11_chooseForAsks_110 rfl ?_
      refine gx_aload_n C hl dX11_chooseForAsks_112 rfl ?_
      obtain ⟨z4, hz4, tz4, h⟩ := h
      have lz4 := (vy3 z4 hz4)
      refine gx_getI C G hz4 lz4 (foA_3 tz4) uw_320 (fun _ h9 => h9) dX11_chooseForAsks_113 ?_
      have r5 := G.r z4 3
      refine gx_callV C G hl hml (c_X11_canGo l D cy ad hV ry5 r5 h) rfl (fX11_o hV) (by rw [(fX11_c hV)]; rfl) (by rw [(fX11_c hV)]; decide) rfl uw_529 uw_526 uw_528 up_6 uw_1 hd_X11_canGo ⟨Nat.le_of_ble_eq_true rfl, Nat.le_of_ble_eq_true rfl⟩ ⟨Nat.zero_le _, Nat.zero_le _⟩ rfl rfl (hw_le ad [] rfl (Nat.le_of_ble_eq_true rfl)) dX11_chooseForAsks_116 (kkI (fun t7 S6 H locs rt7 h G => ?_))
      refine gx_if_eq (tgt := 138) C rt7 dX11_chooseForAsks_119 (by decide) (fun c8 => ?_) (fun c8 => ?_)
      · have h := h.1 c8
        exact b138 K24 hK24 y1 y3 S6 H locs ls ry1 vy3 (lo_mask (bs := [true, true, false, true, false, false, false]) hl rfl rfl) G h
      · have h := h.2 c8
        refine gx_aload_n C hl dX11_chooseForAsks_122 rfl ?_
        refine gx_aload_n C hl dX11_chooseForAsks_123 rfl ?_
        refine gx_getI C G hz4 lz4 (foA_3 tz4) uw_320 (fun _ h9 => h9) dX11_chooseForAsks_124 ?_
        have r9 := G.r z4 3
        refine gx_putI C G rfl (fX11_o hV) (fo10_14 (fX11_c hV)) r9 uw_229 (fun _ h9 => h9) dX11_chooseForAsks_127 (fun H locs G => ?_)
        obtain ⟨S10, eS10⟩ : ∃ q9 : Me, q9 = sI S6 o 14 (S6.1 z4 3) := ⟨_, rfl⟩
        have h := h S10 eS10
        rw [← eS10] at G
        refine gx_aload_n C hl dX11_chooseForAsks_130 rfl ?_
        refine gx_aload_n C hl dX11_chooseForAsks_131 rfl ?_
        refine gx_putP C G rfl (fX11_o hV) (fo10_15 (fX11_c hV)) (Or.inl ⟨_, rfl⟩) vy3 uw_230 (fun _ h9 => h9) dX11_chooseForAsks_132 (fun H locs G => ?_)
        obtain ⟨S11, eS11⟩ : ∃ q9 : Me, q9 = sP S10 o 15 y3 := ⟨_, rfl⟩
        have h := h S11 eS11
        rw [← eS11] at G
        refine gx_iload C hl dX11_chooseForAsks_135 rfl ?_
        exact gx_iret C G hret ry5 h dX11_chooseForAsks_137
  have b97 : ∀ (K24 : Int → Option Nat → Me → Prop) (hK24 : ∀ (y1 : Int) (y3 : Option Nat) (S : Me) (H : Heap) (locs : List Loc) (ls : Array Slot), rng y1 → (∀ z, y3 = some z → z < V.1) → lo ad ls [some (.inr (some o)), some (.inl y1), none, some (.inr y3), none, none, none] → Gy D cy A s.heap ad V S H locs → K24 y1 y3 S → W p l e (rmx 3 71) s m args below meth c H locs 0 0 (qm below D cy ad V A args s (qI Q)) (F0 m 24 ls [])) (y1 : Int) (y3 : Option Nat) (y5 : Int) (S : Me) (H : Heap) (locs : List Loc) (ls : Array Slot), rng y1 → (∀ z, y3 = some z → z < V.1) → rng y5 → lo ad ls [some (.inr (some o)), some (.inl y1), none, some (.inr y3), none, some (.inl y5), none] → Gy D cy A s.heap ad V S H locs → B_X11_chooseForAsks_97 V o K24 y1 y3 y5 S Q → W p l e (rmx 3 71) s m args below meth c H locs 0 0 (qm below D cy ad V A args s (qI Q)) (F0 m 97 ls []) := by
    intro K24 hK24 y1 y3 y5 S H locs ls ry1 vy3 ry5 hl G h
    unfold B_X11_chooseForAsks_97 at h
    refine gx_iconst C dX11_chooseForAsks_97 ?_
    refine gx_goto (tgt := 102) C dX11_chooseForAsks_98 (by decide) ?_
    exact b102 K24 hK24 y1 y3 y5 1 S H locs ls ry1 vy3 ry5 (show rng 1 by decide) hl G h
  have b59 : ∀ (K24 : Int → Option Nat → Me → Prop) (hK24 : ∀ (y1 : Int) (y3 : Option Nat) (S : Me) (H : Heap) (locs : List Loc) (ls : Array Slot), rng y1 → (∀ z, y3 = some z → z < V.1) → lo ad ls [some (.inr (some o)), some (.inl y1), none, some (.inr y3), none, none, none] → Gy D cy A s.heap ad V S H locs → K24 y1 y3 S → W p l e (rmx 3 71) s m args below meth c H locs 0 0 (qm below D cy ad V A args s (qI Q)) (F0 m 24 ls [])) (y1 : Int) (y3 : Option Nat) (w0 : Int) (S : Me) (H : Heap) (locs : List Loc) (ls : Array Slot), rng y1 → (∀ z, y3 = some z → z < V.1) → rng w0 → lo ad ls [some (.inr (some o)), some (.inl y1), none, some (.inr y3), none, none, none] → Gy D cy A s.heap ad V S H locs → B_X11_chooseForAsks_59 V o K24 y1 y3 w0 S Q → W p l e (rmx 3 71) s m args below meth c H locs 0 0 (qm below D cy ad V A args s (qI Q)) (F0 m 59 ls [vI w0]) := by
    intro K24 hK24 y1 y3 w0 S H locs ls ry1 vy3 rw0 hl G h
    unfold B_X11_chooseForAsks_59 at h
    refine gx_istore C hl dX11_chooseForAsks_59 (Nat.le_of_ble_eq_true rfl) (PL' := [some (.inr (some o)), some (.inl y1), none, some (.inr y3), some (.inl w0), none, none]) rfl (fun ls hl => ?_)
    refine gx_iload_n C hl dX11_chooseForAsks_61 rfl ?_
    refine gx_iconst C dX11_chooseForAsks_62 ?_
    refine gx_aload_n C hl dX11_chooseForAsks_63 rfl ?_
    obtain ⟨z12, hz12, tz12, h⟩ := h
    have lz12 := (vy3 z12 hz12)
    refine gx_getI C G hz12 lz12 (foA_3 tz12) uw_320 (fun _ h9 => h9) dX11_chooseForAsks_64 ?_
    have r13 := G.r z12 3
    refine gx_ishl C dX11_chooseForAsks_67 ?_
    refine gx_ior C dX11_chooseForAsks_68 ?_
    refine gx_istore_n C hl dX11_chooseForAsks_69 (Nat.le_of_ble_eq_true rfl) (PL' := [some (.inr (some o)), some (.inl (bOr y1 (bShl 1 (S.1 z12 3)))), none, some (.inr y3), some (.inl w0), none, none]) rfl (fun ls hl => ?_)
    refine gx_aload_n C hl dX11_chooseForAsks_70 rfl ?_
    refine gx_getF C G rfl (fX11_o hV) (fo10_3 (fX11_c hV)) (fX11_memory hV) uw_218 (fun _ h9 => h9) dX11_chooseForAsks_71 ?_
    refine gx_aload_n C hl dX11_chooseForAsks_74 rfl ?_
    refine gx_callV C G hl hml (c_X4_stepToward l D cy ad (fX11_memory_s hV) vy3 h) rfl (fX4_o (fX11_memory_s hV)) (by rw [(fX4_c (fX11_memory_s hV))]; rfl) (by rw [(fX4_c (fX11_memory_s hV))]; decide) rfl uw_580 uw_577 uw_578 uw_579 uw_5 hd_X4_stepToward ⟨Nat.le_of_ble_eq_true rfl, Nat.le_of_ble_eq_true rfl⟩ ⟨Nat.zero_le _, Nat.zero_le _⟩ rfl rfl (hw_le ad [] rfl (Nat.le_of_ble_eq_true rfl)) dX11_chooseForAsks_75 (kkI (fun t15 S14 H locs rt15 h G => ?_))
    refine gx_istore C hl dX11_chooseForAsks_78 (Nat.le_of_ble_eq_true rfl) (PL' := [some (.inr (some o)), some (.inl (bOr y1 (bShl 1 (S.1 z12 3)))), none, some (.inr y3), some (.inl w0), some (.inl t15), none]) rfl (fun ls hl => ?_)
    refine gx_iload C hl dX11_chooseForAsks_80 rfl ?_
    refine gx_if_ne (tgt := 97) C rw0 dX11_chooseForAsks_82 (by decide) (fun c16 => ?_) (fun c16 => ?_)
    · have h := h.1 c16
      exact b97 K24 hK24 (bOr y1 (bShl 1 (S.1 z12 3))) y3 t15 S14 H locs ls (rg_o _) vy3 rt15 (lo_mask (bs := [true, true, false, true, false, true, false]) hl rfl rfl) G h
    · have h := h.2 c16
      refine gx_iload C hl dX11_chooseForAsks_85 rfl ?_
      refine gx_iconst C dX11_chooseForAsks_87 ?_
      refine gx_icmp_eq (tgt := 97) C rt15 (show rng 2 by decide) dX11_chooseForAsks_88 (by decide) (fun c17 => ?_) (fun c17 => ?_)
      · have h := h.1 c17
        exact b97 K24 hK24 (bOr y1 (bShl 1 (S.1 z12 3))) y3 t15 S14 H locs ls (rg_o _) vy3 rt15 (lo_mask (bs := [true, true, false, true, false, true, false]) hl rfl rfl) G h
      · have h := h.2 c17
        refine gx_iload C hl dX11_chooseForAsks_91 rfl ?_
        refine gx_iconst C dX11_chooseForAsks_93 ?_
        refine gx_icmp_ne (tgt := 101) C rt15 (show rng 3 by decide) dX11_chooseForAsks_94 (by decide) (fun c18 => ?_) (fun c18 => ?_)
        · have h := h.1 c18
          refine gx_iconst C dX11_chooseForAsks_101 ?_
          exact b102 K24 hK24 (bOr y1 (bShl 1 (S.1 z12 3))) y3 t15 0 S14 H locs ls (rg_o _) vy3 rt15 (show rng 0 by decide) (lo_mask (bs := [true, true, false, true, false, true, false]) hl rfl rfl) G h
        · have h := h.2 c18
          exact b97 K24 hK24 (bOr y1 (bShl 1 (S.1 z12 3))) y3 t15 S14 H locs ls (rg_o _) vy3 rt15 (lo_mask (bs := [true, true, false, true, false, true, false]) hl rfl rfl) G h
  have b24 : ∀ (n : Nat) (y1 : Int) (y3 : Option Nat) (S : Me) (H : Heap) (locs : List Loc) (ls : Array Slot), rng y1 → (∀ z, y3 = some z → z < V.1) → lo ad ls [some (.inr (some o)), some (.inl y1), none, some (.inr y3), none, none, none] → Gy D cy A s.heap ad V S H locs → B_X11_chooseForAsks_24 V o Q n y1 y3 S → W p l e (rmx 3 71) s m args below meth c H locs 0 0 (qm below D cy ad V A args s (qI Q)) (F0 m 24 ls []) := by
    intro n
    induction n with
    | zero =>
      intro y1 y3 S H locs ls ry1 vy3 hl G h
      exact absurd h id
    | succ n ih =>
      intro y1 y3 S H locs ls ry1 vy3 hl G h
      rw [B_X11_chooseForAsks_24] at h
      refine gx_aload_n C hl dX11_chooseForAsks_24 rfl ?_
      refine gx_ifnull (tgt := 146) C dX11_chooseForAsks_25 (by decide) (fun c19 => ?_) (fun c19 => ?_)
      · have h := h.1 c19
        refine gx_bipush C dX11_chooseForAsks_146 (by decide) ?_
        exact gx_iret C G hret (show rng (-2) by decide) h dX11_chooseForAsks_148
      · have h := h.2 c19
        refine gx_aload_n C hl dX11_chooseForAsks_28 rfl ?_
        refine gx_getF C G rfl (fX11_o hV) (fo10_4 (fX11_c hV)) (fX11_queue hV) uw_219 (fun _ h9 => h9) dX11_chooseForAsks_29 ?_
        refine gx_aload_n C hl dX11_chooseForAsks_32 rfl ?_
        refine gx_iconst C dX11_chooseForAsks_33 ?_
        refine gx_callV C G hl hml (c_X7_isHeld l D cy ad (fX11_queue_s hV) vy3 (show rng 0 by decide) h) rfl (fX7_o (fX11_queue_s hV)) (by rw [(fX7_c (fX11_queue_s hV))]; rfl) (by rw [(fX7_c (fX11_queue_s hV))]; decide) rfl uw_567 uw_564 uw_565 uw_566 uw_6 hd_X7_isHeld ⟨Nat.le_of_ble_eq_true rfl, Nat.le_of_ble_eq_true rfl⟩ ⟨Nat.zero_le _, Nat.zero_le _⟩ rfl rfl (hw_le ad [] rfl (Nat.le_of_ble_eq_true rfl)) dX11_chooseForAsks_34 (kkI (fun t21 S20 H locs rt21 h G => ?_))
        refine gx_if_eq (tgt := 43) C rt21 dX11_chooseForAsks_37 (by decide) (fun c22 => ?_) (fun c22 => ?_)
        · have h := h.1 c22
          refine gx_iload_n C hl dX11_chooseForAsks_43 rfl ?_
          refine gx_aload_n C hl dX11_chooseForAsks_44 rfl ?_
          obtain ⟨z23, hz23, tz23, h⟩ := h
          have lz23 := (vy3 z23 hz23)
          refine gx_getI C G hz23 lz23 (foA_3 tz23) uw_320 (fun _ h9 => h9) dX11_chooseForAsks_45 ?_
          have r24 := G.r z23 3
          refine gx_ishr C dX11_chooseForAsks_48 ?_
          refine gx_iconst C dX11_chooseForAsks_49 ?_
          refine gx_iand C dX11_chooseForAsks_50 ?_
          refine gx_if_ne (tgt := 58) C (rg_o _) dX11_chooseForAsks_51 (by decide) (fun c25 => ?_) (fun c25 => ?_)
          · have h := h.1 c25
            refine gx_iconst C dX11_chooseForAsks_58 ?_
            exact b59 (B_X11_chooseForAsks_24 V o Q n) ih y1 y3 0 S20 H locs ls ry1 vy3 (show rng 0 by decide) hl G h
          · have h := h.2 c25
            refine gx_iconst C dX11_chooseForAsks_54 ?_
            refine gx_goto (tgt := 59) C dX11_chooseForAsks_55 (by decide) ?_
            exact b59 (B_X11_chooseForAsks_24 V o Q n) ih y1 y3 1 S20 H locs ls ry1 vy3 (show rng 1 by decide) hl G h
        · have h := h.2 c22
          refine gx_goto (tgt := 138) C dX11_chooseForAsks_40 (by decide) ?_
          exact b138 (B_X11_chooseForAsks_24 V o Q n) ih y1 y3 S20 H locs ls ry1 vy3 hl G h
  clear eA
  unfold PT_X11_chooseForAsks at h
  refine gx_iconst C dX11_chooseForAsks_0 ?_
  refine gx_istore_n C hl dX11_chooseForAsks_1 (Nat.le_of_ble_eq_true rfl) (PL' := [some (.inr (some o)), some (.inl 0), none, none, none, none, none]) rfl (fun ls hl => ?_)
  refine gx_aload_n C hl dX11_chooseForAsks_2 rfl ?_
  refine gx_getF C G rfl (fX11_o hV) (fo10_4 (fX11_c hV)) (fX11_queue hV) uw_219 (fun _ h9 => h9) dX11_chooseForAsks_3 ?_
  refine gx_aload_n C hl dX11_chooseForAsks_6 rfl ?_
  refine gx_getI C G rfl (fX11_o hV) (fo10_10 (fX11_c hV)) uw_225 (fun _ h9 => h9) dX11_chooseForAsks_7 ?_
  have r26 := G.r o 10
  refine gx_aload_n C hl dX11_chooseForAsks_10 rfl ?_
  refine gx_getI C G rfl (fX11_o hV) (fo10_11 (fX11_c hV)) uw_226 (fun _ h9 => h9) dX11_chooseForAsks_11 ?_
  have r27 := G.r o 11
  refine gx_aload_n C hl dX11_chooseForAsks_14 rfl ?_
  refine gx_getF C G rfl (fX11_o hV) (fo10_3 (fX11_c hV)) (fX11_memory hV) uw_218 (fun _ h9 => h9) dX11_chooseForAsks_15 ?_
  refine gx_callV C G hl hml (c_X7_arrange l D cy ad (fX11_queue_s hV) r26 r27 (vsome (fX4_o (fX11_memory_s hV))) h) rfl (fX7_o (fX11_queue_s hV)) (by rw [(fX7_c (fX11_queue_s hV))]; rfl) (by rw [(fX7_c (fX11_queue_s hV))]; decide) rfl uw_556 uw_553 uw_554 uw_555 uw_6 hd_X7_arrange ⟨Nat.le_of_ble_eq_true rfl, Nat.le_of_ble_eq_true rfl⟩ ⟨Nat.zero_le _, Nat.zero_le _⟩ rfl rfl (hw_le ad [] rfl (Nat.le_of_ble_eq_true rfl)) dX11_chooseForAsks_18 (kkR (fun t29 S28 H locs vt29 h G => ?_))
  refine gx_astore_n C hl dX11_chooseForAsks_21 (Nat.le_of_ble_eq_true rfl) (PL' := [some (.inr (some o)), some (.inl 0), some (.inr t29), none, none, none, none]) rfl (fun ls hl => ?_)
  refine gx_aload_n C hl dX11_chooseForAsks_22 rfl ?_
  refine gx_astore_n C hl dX11_chooseForAsks_23 (Nat.le_of_ble_eq_true rfl) (PL' := [some (.inr (some o)), some (.inl 0), some (.inr t29), some (.inr t29), none, none, none]) rfl (fun ls hl => ?_)
  obtain ⟨n9, h⟩ := h
  exact b24 n9 0 t29 S28 H locs ls (show rng 0 by decide) vt29 (lo_mask (bs := [true, true, false, true, false, false, false]) hl rfl rfl) G h
def B_X11_choose_45 (V : Vt) (o : Nat) (x1 : Int) (w0 : Int) (S : Me) (Q : Int → Me → Prop) : Prop := ((w0 = 0 → PT_X11_chooseForAsks V o S (fun t3 S2 => Q t3 S2)) ∧ (¬ w0 = 0 → PT_X11_chooseForRefresh V o S (fun t5 S4 => Q t5 S4)))
def B_X11_choose_40 (V : Vt) (o : Nat) (x1 : Int) (S : Me) (Q : Int → Me → Prop) : Prop := B_X11_choose_45 V o x1 1 S Q
def B_X11_choose_44 (V : Vt) (o : Nat) (x1 : Int) (S : Me) (Q : Int → Me → Prop) : Prop := B_X11_choose_45 V o x1 0 S Q
def PT_X11_choose (V : Vt) (o : Nat) (x1 : Int) (S : Me) (Q : Int → Me → Prop) : Prop := ∀ S6 : Me, S6 = sI S o 14 (-2) → ∀ S7 : Me, S7 = sP S6 o 15 none → (((S7.1 o 8) ≤ x1 → B_X11_choose_40 V o x1 S7 Q) ∧ (¬ (S7.1 o 8) ≤ x1 → ((x1 ≤ 0 → B_X11_choose_44 V o x1 S7 Q) ∧ (¬ x1 ≤ 0 → ((¬ (S7.1 (o + 28) 7) = (S7.1 (o + 28) 8) → B_X11_choose_44 V o x1 S7 Q) ∧ ((S7.1 (o + 28) 7) = (S7.1 (o + 28) 8) → B_X11_choose_40 V o x1 S7 Q))))))
theorem hd_X11_choose : yX11_choose.cls ≠ "java/lang/invoke/MethodHandle" ∧ yX11_choose.cls ≠ "java/lang/invoke/VarHandle" ∧ (parseMethodDescriptor yX11_choose.desc).map (fun d => d.parameters.length) = some 1 := by decide +kernel
set_option maxHeartbeats 4000000 in
set_option maxRecDepth 100000 in
theorem c_X11_choose (l : Launch) (D : va_G) (cy : ClassId × ClassId × ClassId × ClassId) (ad : Nat → Nat) {V : Vt} {S : Me} {o : Nat} {x1 : Int} (hV : fX11 V o) (rx1 : rng x1) {Q : Int → Me → Prop} (h : PT_X11_choose V o x1 S Q) : KM l D cy yX11_choose cX11_choose 3 (Option.some Jvm.ClassFile.FieldType.int) 4 97 ad V S [.inr (some o), .inl x1] (qI Q) := by
  refine KM.of (by decide) rfl (Nat.le_of_ble_eq_true rfl) (own := RX11) (fun p e s m args below meth c A ls H locs eA C hret hml hmn hl G => ?_)
  have hl : lo ad ls [some (.inr (some o)), some (.inl x1), none] := hl
  have b45 : ∀ (w0 : Int) (S : Me) (H : Heap) (locs : List Loc) (ls : Array Slot), rng w0 → lo ad ls [some (.inr (some o)), some (.inl x1), none] → Gy D cy A s.heap ad V S H locs → B_X11_choose_45 V o x1 w0 S Q → W p l e (rmx 4 97) s m args below meth c H locs 0 0 (qm below D cy ad V A args s (qI Q)) (F0 m 45 ls [vI w0]) := by
    intro w0 S H locs ls rw0 hl G h
    unfold B_X11_choose_45 at h
    refine gx_istore_n C hl dX11_choose_45 (Nat.le_of_ble_eq_true rfl) (PL' := [some (.inr (some o)), some (.inl x1), some (.inl w0)]) rfl (fun ls hl => ?_)
    refine gx_iload_n C hl dX11_choose_46 rfl ?_
    refine gx_if_eq (tgt := 57) C rw0 dX11_choose_47 (by decide) (fun c1 => ?_) (fun c1 => ?_)
    · have h := h.1 c1
      refine gx_aload_n C hl dX11_choose_57 rfl ?_
      refine gx_callV C G hl hml (c_X11_chooseForAsks l D cy ad hV h) rfl (fX11_o hV) (by rw [(fX11_c hV)]; rfl) (by rw [(fX11_c hV)]; decide) rfl uw_552 uw_549 uw_551 up_9 uw_1 hd_X11_chooseForAsks ⟨Nat.le_of_ble_eq_true rfl, Nat.le_of_ble_eq_true rfl⟩ ⟨Nat.zero_le _, Nat.zero_le _⟩ rfl rfl (hw_le ad [] rfl (Nat.le_of_ble_eq_true rfl)) dX11_choose_58 (kkI (fun t3 S2 H locs rt3 h G => ?_))
      exact gx_iret C G hret rt3 h dX11_choose_61
    · have h := h.2 c1
      refine gx_aload_n C hl dX11_choose_50 rfl ?_
      refine gx_callV C G hl hml (c_X11_chooseForRefresh l D cy ad hV h) rfl (fX11_o hV) (by rw [(fX11_c hV)]; rfl) (by rw [(fX11_c hV)]; decide) rfl uw_525 uw_522 uw_524 up_5 uw_1 hd_X11_chooseForRefresh ⟨Nat.le_of_ble_eq_true rfl, Nat.le_of_ble_eq_true rfl⟩ ⟨Nat.zero_le _, Nat.zero_le _⟩ rfl rfl (hw_le ad [] rfl (Nat.le_of_ble_eq_true rfl)) dX11_choose_51 (kkI (fun t5 S4 H locs rt5 h G => ?_))
      refine gx_goto (tgt := 61) C dX11_choose_54 (by decide) ?_
      exact gx_iret C G hret rt5 h dX11_choose_61
  have b40 : ∀ (S : Me) (H : Heap) (locs : List Loc) (ls : Array Slot), lo ad ls [some (.inr (some o)), some (.inl x1), none] → Gy D cy A s.heap ad V S H locs → B_X11_choose_40 V o x1 S Q → W p l e (rmx 4 97) s m args below meth c H locs 0 0 (qm below D cy ad V A args s (qI Q)) (F0 m 40 ls []) := by
    intro S H locs ls hl G h
    unfold B_X11_choose_40 at h
    refine gx_iconst C dX11_choose_40 ?_
    refine gx_goto (tgt := 45) C dX11_choose_41 (by decide) ?_
    exact b45 1 S H locs ls (show rng 1 by decide) hl G h
  have b44 : ∀ (S : Me) (H : Heap) (locs : List Loc) (ls : Array Slot), lo ad ls [some (.inr (some o)), some (.inl x1), none] → Gy D cy A s.heap ad V S H locs → B_X11_choose_44 V o x1 S Q → W p l e (rmx 4 97) s m args below meth c H locs 0 0 (qm below D cy ad V A args s (qI Q)) (F0 m 44 ls []) := by
    intro S H locs ls hl G h
    unfold B_X11_choose_44 at h
    refine gx_iconst C dX11_choose_44 ?_
    exact b45 0 S H locs ls (show rng 0 by decide) hl G h
  clear eA
  unfold PT_X11_choose at h
  refine gx_aload_n C hl dX11_choose_0 rfl ?_
  refine gx_bipush C dX11_choose_1 (by decide) ?_
  refine gx_putI C G rfl (fX11_o hV) (fo10_14 (fX11_c hV)) (show rng (-2) by decide) uw_229 (fun _ h9 => h9) dX11_choose_3 (fun H locs G => ?_)
  obtain ⟨S6, eS6⟩ : ∃ q9 : Me, q9 = sI S o 14 (-2) := ⟨_, rfl⟩
  have h := h S6 eS6
  rw [← eS6] at G
  refine gx_aload_n C hl dX11_choose_6 rfl ?_
  refine gx_null (ad := ad) C dX11_choose_7 ?_
  refine gx_putP C G rfl (fX11_o hV) (fo10_15 (fX11_c hV)) (Or.inl ⟨_, rfl⟩) vnone uw_230 (fun _ h9 => h9) dX11_choose_8 (fun H locs G => ?_)
  obtain ⟨S7, eS7⟩ : ∃ q9 : Me, q9 = sP S6 o 15 none := ⟨_, rfl⟩
  have h := h S7 eS7
  rw [← eS7] at G
  refine gx_iload_n C hl dX11_choose_11 rfl ?_
  refine gx_aload_n C hl dX11_choose_12 rfl ?_
  refine gx_getI C G rfl (fX11_o hV) (fo10_8 (fX11_c hV)) uw_223 (fun _ h9 => h9) dX11_choose_13 ?_
  have r8 := G.r o 8
  refine gx_icmp_ge (tgt := 40) C rx1 r8 dX11_choose_16 (by decide) (fun c9 => ?_) (fun c9 => ?_)
  · have h := h.1 c9
    exact b40 S7 H locs ls hl G h
  · have h := h.2 c9
    refine gx_iload_n C hl dX11_choose_19 rfl ?_
    refine gx_if_le (tgt := 44) C rx1 dX11_choose_20 (by decide) (fun c10 => ?_) (fun c10 => ?_)
    · have h := h.1 c10
      exact b44 S7 H locs ls hl G h
    · have h := h.2 c10
      refine gx_aload_n C hl dX11_choose_23 rfl ?_
      refine gx_getF C G rfl (fX11_o hV) (fo10_4 (fX11_c hV)) (fX11_queue hV) uw_219 (fun _ h9 => h9) dX11_choose_24 ?_
      refine gx_getI C G rfl (fX7_o (fX11_queue_s hV)) (fo6_7 (fX7_c (fX11_queue_s hV))) uw_162 (fun _ h9 => h9) dX11_choose_27 ?_
      have r11 := G.r (o + 28) 7
      refine gx_aload_n C hl dX11_choose_30 rfl ?_
      refine gx_getF C G rfl (fX11_o hV) (fo10_4 (fX11_c hV)) (fX11_queue hV) uw_219 (fun _ h9 => h9) dX11_choose_31 ?_
      refine gx_getI C G rfl (fX7_o (fX11_queue_s hV)) (fo6_8 (fX7_c (fX11_queue_s hV))) uw_164 (fun _ h9 => h9) dX11_choose_34 ?_
      have r12 := G.r (o + 28) 8
      refine gx_icmp_ne (tgt := 44) C r11 r12 dX11_choose_37 (by decide) (fun c13 => ?_) (fun c13 => ?_)
      · have h := h.1 c13
        exact b44 S7 H locs ls hl G h
      · have h := h.2 c13
        exact b40 S7 H locs ls hl G h
def PT_X11_carryOut (V : Vt) (o : Nat) (x1 : Int) (x2 : Int) (x3 : Option Nat) (S : Me) (Q : Me → Prop) : Prop := PT_X5_remember V (o + 2) x1 x2 (S.1 o 6) S (fun S2 => (rng ((S2.1 o 12) + 1)) ∧ ∀ S5 : Me, S5 = sI S2 o 12 ((S2.1 o 12) + 1) → PT_X1_add V (o + 10) x1 x2 x3 (S5.1 o 6) S5 (fun S7 => ((¬ x1 = 4 → ((¬ x1 = 1 → ((x3 = none → Q S7) ∧ (¬ x3 = none → ((¬ x1 = 0 → PT_X4_serve V (o + 25) x3 S7 (fun S12 => PT_X7_finish V (o + 28) x3 (S12.1 o 6) S12 (fun S14 => Q S14))) ∧ (x1 = 0 → ∃ z15 : Nat, x3 = some z15 ∧ isA (V.2.1 z15) ∧ PT_X4_openRow V (o + 25) x2 (S7.1 z15 4) S7 (fun S17 => Q S17)))))) ∧ (x1 = 1 → PT_X4_shutRow V (o + 25) x2 S7 (fun S18 => Q S18)))) ∧ (x1 = 4 → (rng ((S7.1 o 9) - 1)) ∧ ∀ S21 : Me, S21 = sI S7 o 9 ((S7.1 o 9) - 1) → (rng ((S21.1 o 13) + 1)) ∧ ∀ S24 : Me, S24 = sI S21 o 13 ((S21.1 o 13) + 1) → Q S24))))
theorem hd_X11_carryOut : yX11_carryOut.cls ≠ "java/lang/invoke/MethodHandle" ∧ yX11_carryOut.cls ≠ "java/lang/invoke/VarHandle" ∧ (parseMethodDescriptor yX11_carryOut.desc).map (fun d => d.parameters.length) = some 3 := by decide +kernel
set_option maxHeartbeats 4000000 in
set_option maxRecDepth 100000 in
theorem c_X11_carryOut (l : Launch) (D : va_G) (cy : ClassId × ClassId × ClassId × ClassId) (ad : Nat → Nat) {V : Vt} {S : Me} {o : Nat} {x1 : Int} {x2 : Int} {x3 : Option Nat} (hV : fX11 V o) (rx1 : rng x1) (rx2 : rng x2) (vx3 : ∀ z, x3 = some z → z < V.1) {Q : Me → Prop} (h : PT_X11_carryOut V o x1 x2 x3 S Q) : KM l D cy yX11_carryOut cX11_carryOut 4 (Option.none : Option Jvm.ClassFile.FieldType) 3 65 ad V S [.inr (some o), .inl x1, .inl x2, .inr x3] (qV Q) := by
  refine KM.of (by decide) rfl (Nat.le_of_ble_eq_true rfl) (own := RX11) (fun p e s m args below meth c A ls H locs eA C hret hml hmn hl G => ?_)
  have hl : lo ad ls [some (.inr (some o)), some (.inl x1), some (.inl x2), some (.inr x3)] := hl
  clear eA
  unfold PT_X11_carryOut at h
  refine gx_aload_n C hl dX11_carryOut_0 rfl ?_
  refine gx_getF C G rfl (fX11_o hV) (fo10_1 (fX11_c hV)) (fX11_past hV) uw_216 (fun _ h9 => h9) dX11_carryOut_1 ?_
  refine gx_iload_n C hl dX11_carryOut_4 rfl ?_
  refine gx_iload_n C hl dX11_carryOut_5 rfl ?_
  refine gx_aload_n C hl dX11_carryOut_6 rfl ?_
  refine gx_getI C G rfl (fX11_o hV) (fo10_6 (fX11_c hV)) uw_221 (fun _ h9 => h9) dX11_carryOut_7 ?_
  have r1 := G.r o 6
  refine gx_callV C G hl hml (c_X5_remember l D cy ad (fX11_past_s hV) rx1 rx2 r1 h) rfl (fX5_o (fX11_past_s hV)) (by rw [(fX5_c (fX11_past_s hV))]; rfl) (by rw [(fX5_c (fX11_past_s hV))]; decide) rfl uw_599 uw_596 uw_597 uw_598 uw_2 hd_X5_remember ⟨Nat.le_of_ble_eq_true rfl, Nat.le_of_ble_eq_true rfl⟩ ⟨Nat.zero_le _, Nat.zero_le _⟩ rfl rfl (hw_le ad [] rfl (Nat.le_of_ble_eq_true rfl)) dX11_carryOut_10 (kkV (fun S2 H locs h G => ?_))
  refine gx_aload_n C hl dX11_carryOut_13 rfl ?_
  refine gx_dupR C dX11_carryOut_14 ?_
  refine gx_getI C G rfl (fX11_o hV) (fo10_12 (fX11_c hV)) uw_227 (fun _ h9 => h9) dX11_carryOut_15 ?_
  have r3 := G.r o 12
  refine gx_iconst C dX11_carryOut_18 ?_
  obtain ⟨h4, h⟩ := h
  refine gx_iadd C dX11_carryOut_19 ?_
  refine gx_putI C G rfl (fX11_o hV) (fo10_12 (fX11_c hV)) h4 uw_227 (fun _ h9 => h9) dX11_carryOut_20 (fun H locs G => ?_)
  obtain ⟨S5, eS5⟩ : ∃ q9 : Me, q9 = sI S2 o 12 ((S2.1 o 12) + 1) := ⟨_, rfl⟩
  have h := h S5 eS5
  rw [← eS5] at G
  refine gx_aload_n C hl dX11_carryOut_23 rfl ?_
  refine gx_getF C G rfl (fX11_o hV) (fo10_2 (fX11_c hV)) (fX11_commandLog hV) uw_217 (fun _ h9 => h9) dX11_carryOut_24 ?_
  refine gx_iload_n C hl dX11_carryOut_27 rfl ?_
  refine gx_iload_n C hl dX11_carryOut_28 rfl ?_
  refine gx_aload_n C hl dX11_carryOut_29 rfl ?_
  refine gx_aload_n C hl dX11_carryOut_30 rfl ?_
  refine gx_getI C G rfl (fX11_o hV) (fo10_6 (fX11_c hV)) uw_221 (fun _ h9 => h9) dX11_carryOut_31 ?_
  have r6 := G.r o 6
  refine gx_callV C G hl hml (c_X1_add l D cy ad (fX11_commandLog_s hV) rx1 rx2 vx3 r6 h) rfl (fX1_o (fX11_commandLog_s hV)) (by rw [(fX1_c (fX11_commandLog_s hV))]; rfl) (by rw [(fX1_c (fX11_commandLog_s hV))]; decide) rfl uw_607 uw_604 uw_605 uw_606 uw_4 hd_X1_add ⟨Nat.le_of_ble_eq_true rfl, Nat.le_of_ble_eq_true rfl⟩ ⟨Nat.zero_le _, Nat.zero_le _⟩ rfl rfl (hw_le ad [] rfl (Nat.le_of_ble_eq_true rfl)) dX11_carryOut_34 (kkV (fun S7 H locs h G => ?_))
  refine gx_iload_n C hl dX11_carryOut_37 rfl ?_
  refine gx_iconst C dX11_carryOut_38 ?_
  refine gx_icmp_ne (tgt := 65) C rx1 (show rng 4 by decide) dX11_carryOut_39 (by decide) (fun c8 => ?_) (fun c8 => ?_)
  · have h := h.1 c8
    refine gx_iload_n C hl dX11_carryOut_65 rfl ?_
    refine gx_iconst C dX11_carryOut_66 ?_
    refine gx_icmp_ne (tgt := 81) C rx1 (show rng 1 by decide) dX11_carryOut_67 (by decide) (fun c9 => ?_) (fun c9 => ?_)
    · have h := h.1 c9
      refine gx_aload_n C hl dX11_carryOut_81 rfl ?_
      refine gx_ifnull (tgt := 124) C dX11_carryOut_82 (by decide) (fun c10 => ?_) (fun c10 => ?_)
      · have h := h.1 c10
        exact gx_vret C G hret h dX11_carryOut_124
      · have h := h.2 c10
        refine gx_iload_n C hl dX11_carryOut_85 rfl ?_
        refine gx_if_ne (tgt := 104) C rx1 dX11_carryOut_86 (by decide) (fun c11 => ?_) (fun c11 => ?_)
        · have h := h.1 c11
          refine gx_aload_n C hl dX11_carryOut_104 rfl ?_
          refine gx_getF C G rfl (fX11_o hV) (fo10_3 (fX11_c hV)) (fX11_memory hV) uw_218 (fun _ h9 => h9) dX11_carryOut_105 ?_
          refine gx_aload_n C hl dX11_carryOut_108 rfl ?_
          refine gx_callV C G hl hml (c_X4_serve l D cy ad (fX11_memory_s hV) vx3 h) rfl (fX4_o (fX11_memory_s hV)) (by rw [(fX4_c (fX11_memory_s hV))]; rfl) (by rw [(fX4_c (fX11_memory_s hV))]; decide) rfl uw_622 uw_619 uw_620 uw_621 uw_5 hd_X4_serve ⟨Nat.le_of_ble_eq_true rfl, Nat.le_of_ble_eq_true rfl⟩ ⟨Nat.zero_le _, Nat.zero_le _⟩ rfl rfl (hw_le ad [] rfl (Nat.le_of_ble_eq_true rfl)) dX11_carryOut_109 (kkV (fun S12 H locs h G => ?_))
          refine gx_aload_n C hl dX11_carryOut_112 rfl ?_
          refine gx_getF C G rfl (fX11_o hV) (fo10_4 (fX11_c hV)) (fX11_queue hV) uw_219 (fun _ h9 => h9) dX11_carryOut_113 ?_
          refine gx_aload_n C hl dX11_carryOut_116 rfl ?_
          refine gx_aload_n C hl dX11_carryOut_117 rfl ?_
          refine gx_getI C G rfl (fX11_o hV) (fo10_6 (fX11_c hV)) uw_221 (fun _ h9 => h9) dX11_carryOut_118 ?_
          have r13 := G.r o 6
          refine gx_callV C G hl hml (c_X7_finish l D cy ad (fX11_queue_s hV) vx3 r13 h) rfl (fX7_o (fX11_queue_s hV)) (by rw [(fX7_c (fX11_queue_s hV))]; rfl) (by rw [(fX7_c (fX11_queue_s hV))]; decide) rfl uw_652 uw_649 uw_650 uw_651 uw_6 hd_X7_finish ⟨Nat.le_of_ble_eq_true rfl, Nat.le_of_ble_eq_true rfl⟩ ⟨Nat.zero_le _, Nat.zero_le _⟩ rfl rfl (hw_le ad [] rfl (Nat.le_of_ble_eq_true rfl)) dX11_carryOut_121 (kkV (fun S14 H locs h G => ?_))
          exact gx_vret C G hret h dX11_carryOut_124
        · have h := h.2 c11
          refine gx_aload_n C hl dX11_carryOut_89 rfl ?_
          refine gx_getF C G rfl (fX11_o hV) (fo10_3 (fX11_c hV)) (fX11_memory hV) uw_218 (fun _ h9 => h9) dX11_carryOut_90 ?_
          refine gx_iload_n C hl dX11_carryOut_93 rfl ?_
          refine gx_aload_n C hl dX11_carryOut_94 rfl ?_
          obtain ⟨z15, hz15, tz15, h⟩ := h
          have lz15 := (vx3 z15 hz15)
          refine gx_getI C G hz15 lz15 (foA_4 tz15) uw_325 (fun _ h9 => h9) dX11_carryOut_95 ?_
          have r16 := G.r z15 4
          refine gx_callV C G hl hml (c_X4_openRow l D cy ad (fX11_memory_s hV) rx2 r16 h) rfl (fX4_o (fX11_memory_s hV)) (by rw [(fX4_c (fX11_memory_s hV))]; rfl) (by rw [(fX4_c (fX11_memory_s hV))]; decide) rfl uw_618 uw_615 uw_616 uw_617 uw_5 hd_X4_openRow ⟨Nat.le_of_ble_eq_true rfl, Nat.le_of_ble_eq_true rfl⟩ ⟨Nat.zero_le _, Nat.zero_le _⟩ rfl rfl (hw_le ad [] rfl (Nat.le_of_ble_eq_true rfl)) dX11_carryOut_98 (kkV (fun S17 H locs h G => ?_))
          refine gx_goto (tgt := 124) C dX11_carryOut_101 (by decide) ?_
          exact gx_vret C G hret h dX11_carryOut_124
    · have h := h.2 c9
      refine gx_aload_n C hl dX11_carryOut_70 rfl ?_
      refine gx_getF C G rfl (fX11_o hV) (fo10_3 (fX11_c hV)) (fX11_memory hV) uw_218 (fun _ h9 => h9) dX11_carryOut_71 ?_
      refine gx_iload_n C hl dX11_carryOut_74 rfl ?_
      refine gx_callV C G hl hml (c_X4_shutRow l D cy ad (fX11_memory_s hV) rx2 h) rfl (fX4_o (fX11_memory_s hV)) (by rw [(fX4_c (fX11_memory_s hV))]; rfl) (by rw [(fX4_c (fX11_memory_s hV))]; decide) rfl uw_614 uw_611 uw_612 uw_613 uw_5 hd_X4_shutRow ⟨Nat.le_of_ble_eq_true rfl, Nat.le_of_ble_eq_true rfl⟩ ⟨Nat.zero_le _, Nat.zero_le _⟩ rfl rfl (hw_le ad [] rfl (Nat.le_of_ble_eq_true rfl)) dX11_carryOut_75 (kkV (fun S18 H locs h G => ?_))
      refine gx_goto (tgt := 124) C dX11_carryOut_78 (by decide) ?_
      exact gx_vret C G hret h dX11_carryOut_124
  · have h := h.2 c8
    refine gx_aload_n C hl dX11_carryOut_42 rfl ?_
    refine gx_dupR C dX11_carryOut_43 ?_
    refine gx_getI C G rfl (fX11_o hV) (fo10_9 (fX11_c hV)) uw_224 (fun _ h9 => h9) dX11_carryOut_44 ?_
    have r19 := G.r o 9
    refine gx_iconst C dX11_carryOut_47 ?_
    obtain ⟨h20, h⟩ := h
    refine gx_isub C dX11_carryOut_48 ?_
    refine gx_putI C G rfl (fX11_o hV) (fo10_9 (fX11_c hV)) h20 uw_224 (fun _ h9 => h9) dX11_carryOut_49 (fun H locs G => ?_)
    obtain ⟨S21, eS21⟩ : ∃ q9 : Me, q9 = sI S7 o 9 ((S7.1 o 9) - 1) := ⟨_, rfl⟩
    have h := h S21 eS21
    rw [← eS21] at G
    refine gx_aload_n C hl dX11_carryOut_52 rfl ?_
    refine gx_dupR C dX11_carryOut_53 ?_
    refine gx_getI C G rfl (fX11_o hV) (fo10_13 (fX11_c hV)) uw_228 (fun _ h9 => h9) dX11_carryOut_54 ?_
    have r22 := G.r o 13
    refine gx_iconst C dX11_carryOut_57 ?_
    obtain ⟨h23, h⟩ := h
    refine gx_iadd C dX11_carryOut_58 ?_
    refine gx_putI C G rfl (fX11_o hV) (fo10_13 (fX11_c hV)) h23 uw_228 (fun _ h9 => h9) dX11_carryOut_59 (fun H locs G => ?_)
    obtain ⟨S24, eS24⟩ : ∃ q9 : Me, q9 = sI S21 o 13 ((S21.1 o 13) + 1) := ⟨_, rfl⟩
    have h := h S24 eS24
    rw [← eS24] at G
    refine gx_goto (tgt := 124) C dX11_carryOut_62 (by decide) ?_
    exact gx_vret C G hret h dX11_carryOut_124
def B_X11_passTick_55 (V : Vt) (o : Nat) (y1 : Int) (S : Me) (Q : Int → Me → Prop) : Prop := (rng ((S.1 o 6) + 1)) ∧ ∀ S3 : Me, S3 = sI S o 6 ((S.1 o 6) + 1) → (rng (y1 - (S3.1 (o + 28) 7))) ∧ Q (y1 - (S3.1 (o + 28) 7)) S3
def PT_X11_passTick (V : Vt) (o : Nat) (S : Me) (Q : Int → Me → Prop) : Prop := PT_X11_owedThisTick V o S (fun t7 S6 => ∀ S8 : Me, S8 = sI S6 o 9 t7 → PT_X7_finishFences V (o + 28) (S8.1 o 6) S8 (fun S11 => PT_X11_choose V o (S11.1 o 9) S11 (fun t14 S13 => ((t14 = (-2) → B_X11_passTick_55 V o (S8.1 (o + 28) 7) S13 Q) ∧ (¬ t14 = (-2) → PT_X11_carryOut V o t14 (S13.1 o 14) (S13.2 o 15) S13 (fun S18 => B_X11_passTick_55 V o (S8.1 (o + 28) 7) S18 Q))))))
theorem hd_X11_passTick : yX11_passTick.cls ≠ "java/lang/invoke/MethodHandle" ∧ yX11_passTick.cls ≠ "java/lang/invoke/VarHandle" ∧ (parseMethodDescriptor yX11_passTick.desc).map (fun d => d.parameters.length) = some 0 := by decide +kernel
set_option maxHeartbeats 4000000 in
set_option maxRecDepth 100000 in
theorem c_X11_passTick (l : Launch) (D : va_G) (cy : ClassId × ClassId × ClassId × ClassId) (ad : Nat → Nat) {V : Vt} {S : Me} {o : Nat} (hV : fX11 V o) {Q : Int → Me → Prop} (h : PT_X11_passTick V o S Q) : KM l D cy yX11_passTick cX11_passTick 3 (Option.some Jvm.ClassFile.FieldType.int) 5 119 ad V S [.inr (some o)] (qI Q) := by
  refine KM.of (by decide) rfl (Nat.le_of_ble_eq_true rfl) (own := RX11) (fun p e s m args below meth c A ls H locs eA C hret hml hmn hl G => ?_)
  have hl : lo ad ls [some (.inr (some o)), none, none] := hl
  have b55 : ∀ (y1 : Int) (S : Me) (H : Heap) (locs : List Loc) (ls : Array Slot), rng y1 → lo ad ls [some (.inr (some o)), some (.inl y1), none] → Gy D cy A s.heap ad V S H locs → B_X11_passTick_55 V o y1 S Q → W p l e (rmx 5 119) s m args below meth c H locs 0 0 (qm below D cy ad V A args s (qI Q)) (F0 m 55 ls []) := by
    intro y1 S H locs ls ry1 hl G h
    unfold B_X11_passTick_55 at h
    refine gx_aload_n C hl dX11_passTick_55 rfl ?_
    refine gx_dupR C dX11_passTick_56 ?_
    refine gx_getI C G rfl (fX11_o hV) (fo10_6 (fX11_c hV)) uw_221 (fun _ h9 => h9) dX11_passTick_57 ?_
    have r1 := G.r o 6
    refine gx_iconst C dX11_passTick_60 ?_
    obtain ⟨h2, h⟩ := h
    refine gx_iadd C dX11_passTick_61 ?_
    refine gx_putI C G rfl (fX11_o hV) (fo10_6 (fX11_c hV)) h2 uw_221 (fun _ h9 => h9) dX11_passTick_62 (fun H locs G => ?_)
    obtain ⟨S3, eS3⟩ : ∃ q9 : Me, q9 = sI S o 6 ((S.1 o 6) + 1) := ⟨_, rfl⟩
    have h := h S3 eS3
    rw [← eS3] at G
    refine gx_iload_n C hl dX11_passTick_65 rfl ?_
    refine gx_aload_n C hl dX11_passTick_66 rfl ?_
    refine gx_getF C G rfl (fX11_o hV) (fo10_4 (fX11_c hV)) (fX11_queue hV) uw_219 (fun _ h9 => h9) dX11_passTick_67 ?_
    refine gx_getI C G rfl (fX7_o (fX11_queue_s hV)) (fo6_7 (fX7_c (fX11_queue_s hV))) uw_162 (fun _ h9 => h9) dX11_passTick_70 ?_
    have r4 := G.r (o + 28) 7
    obtain ⟨h5, h⟩ := h
    refine gx_isub C dX11_passTick_73 ?_
    exact gx_iret C G hret h5 h dX11_passTick_74
  clear eA
  unfold PT_X11_passTick at h
  refine gx_aload_n C hl dX11_passTick_0 rfl ?_
  refine gx_aload_n C hl dX11_passTick_1 rfl ?_
  refine gx_callV C G hl hml (c_X11_owedThisTick l D cy ad hV h) rfl (fX11_o hV) (by rw [(fX11_c hV)]; rfl) (by rw [(fX11_c hV)]; decide) rfl uw_509 uw_506 uw_508 up_2 uw_1 hd_X11_owedThisTick ⟨Nat.le_of_ble_eq_true rfl, Nat.le_of_ble_eq_true rfl⟩ ⟨Nat.zero_le _, Nat.zero_le _⟩ rfl rfl (hw_le ad [.inr (some o)] rfl (Nat.le_of_ble_eq_true rfl)) dX11_passTick_2 (kkI (fun t7 S6 H locs rt7 h G => ?_))
  refine gx_putI C G rfl (fX11_o hV) (fo10_9 (fX11_c hV)) rt7 uw_224 (fun _ h9 => h9) dX11_passTick_5 (fun H locs G => ?_)
  obtain ⟨S8, eS8⟩ : ∃ q9 : Me, q9 = sI S6 o 9 t7 := ⟨_, rfl⟩
  have h := h S8 eS8
  rw [← eS8] at G
  refine gx_aload_n C hl dX11_passTick_8 rfl ?_
  refine gx_getF C G rfl (fX11_o hV) (fo10_4 (fX11_c hV)) (fX11_queue hV) uw_219 (fun _ h9 => h9) dX11_passTick_9 ?_
  refine gx_getI C G rfl (fX7_o (fX11_queue_s hV)) (fo6_7 (fX7_c (fX11_queue_s hV))) uw_162 (fun _ h9 => h9) dX11_passTick_12 ?_
  have r9 := G.r (o + 28) 7
  refine gx_istore_n C hl dX11_passTick_15 (Nat.le_of_ble_eq_true rfl) (PL' := [some (.inr (some o)), some (.inl (S8.1 (o + 28) 7)), none]) rfl (fun ls hl => ?_)
  refine gx_aload_n C hl dX11_passTick_16 rfl ?_
  refine gx_getF C G rfl (fX11_o hV) (fo10_4 (fX11_c hV)) (fX11_queue hV) uw_219 (fun _ h9 => h9) dX11_passTick_17 ?_
  refine gx_aload_n C hl dX11_passTick_20 rfl ?_
  refine gx_getI C G rfl (fX11_o hV) (fo10_6 (fX11_c hV)) uw_221 (fun _ h9 => h9) dX11_passTick_21 ?_
  have r10 := G.r o 6
  refine gx_callV C G hl hml (c_X7_finishFences l D cy ad (fX11_queue_s hV) r10 h) rfl (fX7_o (fX11_queue_s hV)) (by rw [(fX7_c (fX11_queue_s hV))]; rfl) (by rw [(fX7_c (fX11_queue_s hV))]; decide) rfl uw_513 uw_510 uw_511 uw_512 uw_6 hd_X7_finishFences ⟨Nat.le_of_ble_eq_true rfl, Nat.le_of_ble_eq_true rfl⟩ ⟨Nat.zero_le _, Nat.zero_le _⟩ rfl rfl (hw_le ad [] rfl (Nat.le_of_ble_eq_true rfl)) dX11_passTick_24 (kkV (fun S11 H locs h G => ?_))
  refine gx_aload_n C hl dX11_passTick_27 rfl ?_
  refine gx_aload_n C hl dX11_passTick_28 rfl ?_
  refine gx_getI C G rfl (fX11_o hV) (fo10_9 (fX11_c hV)) uw_224 (fun _ h9 => h9) dX11_passTick_29 ?_
  have r12 := G.r o 9
  refine gx_callV C G hl hml (c_X11_choose l D cy ad hV r12 h) rfl (fX11_o hV) (by rw [(fX11_c hV)]; rfl) (by rw [(fX11_c hV)]; decide) rfl uw_521 uw_518 uw_520 up_4 uw_1 hd_X11_choose ⟨Nat.le_of_ble_eq_true rfl, Nat.le_of_ble_eq_true rfl⟩ ⟨Nat.zero_le _, Nat.zero_le _⟩ rfl rfl (hw_le ad [] rfl (Nat.le_of_ble_eq_true rfl)) dX11_passTick_32 (kkI (fun t14 S13 H locs rt14 h G => ?_))
  refine gx_istore_n C hl dX11_passTick_35 (Nat.le_of_ble_eq_true rfl) (PL' := [some (.inr (some o)), some (.inl (S8.1 (o + 28) 7)), some (.inl t14)]) rfl (fun ls hl => ?_)
  refine gx_iload_n C hl dX11_passTick_36 rfl ?_
  refine gx_bipush C dX11_passTick_37 (by decide) ?_
  refine gx_icmp_eq (tgt := 55) C rt14 (show rng (-2) by decide) dX11_passTick_39 (by decide) (fun c15 => ?_) (fun c15 => ?_)
  · have h := h.1 c15
    exact b55 (S8.1 (o + 28) 7) S13 H locs ls r9 (lo_mask (bs := [true, true, false]) hl rfl rfl) G h
  · have h := h.2 c15
    refine gx_aload_n C hl dX11_passTick_42 rfl ?_
    refine gx_iload_n C hl dX11_passTick_43 rfl ?_
    refine gx_aload_n C hl dX11_passTick_44 rfl ?_
    refine gx_getI C G rfl (fX11_o hV) (fo10_14 (fX11_c hV)) uw_229 (fun _ h9 => h9) dX11_passTick_45 ?_
    have r16 := G.r o 14
    refine gx_aload_n C hl dX11_passTick_48 rfl ?_
    refine gx_getP C G rfl (fX11_o hV) (fo10_15 (fX11_c hV)) uw_230 (fun _ h9 => h9) dX11_passTick_49 ?_
    have v17 := G.v o 15
    refine gx_callV C G hl hml (c_X11_carryOut l D cy ad hV rt14 r16 v17 h) rfl (fX11_o hV) (by rw [(fX11_c hV)]; rfl) (by rw [(fX11_c hV)]; decide) rfl uw_595 uw_592 uw_594 up_11 uw_1 hd_X11_carryOut ⟨Nat.le_of_ble_eq_true rfl, Nat.le_of_ble_eq_true rfl⟩ ⟨Nat.zero_le _, Nat.zero_le _⟩ rfl rfl (hw_le ad [] rfl (Nat.le_of_ble_eq_true rfl)) dX11_passTick_52 (kkV (fun S18 H locs h G => ?_))
    exact b55 (S8.1 (o + 28) 7) S18 H locs ls r9 (lo_mask (bs := [true, true, false]) hl rfl rfl) G h
def B_X11_run_17 (V : Vt) (o : Nat) (x1 : Int) (Q : Int → Me → Prop) : Nat → (Int → Int → Me → Prop)
  | 0 => fun _ _ _ => False
  | n + 1 => fun y2 y3 S => ((x1 ≤ y3 → Q y2 S) ∧ (¬ x1 ≤ y3 → PT_X11_passTick V o S (fun t3 S2 => (rng (y2 + t3)) ∧ (rng (y3 + 1)) ∧ B_X11_run_17 V o x1 Q n (y2 + t3) (y3 + 1) S2)))
def PT_X11_run (V : Vt) (o : Nat) (x1 : Int) (S : Me) (Q : Int → Me → Prop) : Prop := PT_X11_isWithin V x1 1 500 S (fun t7 S6 => ((¬ t7 = 0 → (∃ n9 : Nat, B_X11_run_17 V o x1 Q n9 0 0 S6)) ∧ (t7 = 0 → Q (-1) S6)))
theorem hd_X11_run : yX11_run.cls ≠ "java/lang/invoke/MethodHandle" ∧ yX11_run.cls ≠ "java/lang/invoke/VarHandle" ∧ (parseMethodDescriptor yX11_run.desc).map (fun d => d.parameters.length) = some 1 := by decide +kernel
set_option maxHeartbeats 4000000 in
set_option maxRecDepth 100000 in
theorem c_X11_run (l : Launch) (D : va_G) (cy : ClassId × ClassId × ClassId × ClassId) (ad : Nat → Nat) {V : Vt} {S : Me} {o : Nat} {x1 : Int} (hV : fX11 V o) (rx1 : rng x1) {Q : Int → Me → Prop} (h : PT_X11_run V o x1 S Q) : KM l D cy yX11_run cX11_run 4 (Option.some Jvm.ClassFile.FieldType.int) 6 141 ad V S [.inr (some o), .inl x1] (qI Q) := by
  refine KM.of (by decide) rfl (Nat.le_of_ble_eq_true rfl) (own := RX11) (fun p e s m args below meth c A ls H locs eA C hret hml hmn hl G => ?_)
  have hl : lo ad ls [some (.inr (some o)), some (.inl x1), none, none] := hl
  have b17 : ∀ (n : Nat) (y2 : Int) (y3 : Int) (S : Me) (H : Heap) (locs : List Loc) (ls : Array Slot), rng y2 → rng y3 → lo ad ls [some (.inr (some o)), some (.inl x1), some (.inl y2), some (.inl y3)] → Gy D cy A s.heap ad V S H locs → B_X11_run_17 V o x1 Q n y2 y3 S → W p l e (rmx 6 141) s m args below meth c H locs 0 0 (qm below D cy ad V A args s (qI Q)) (F0 m 17 ls []) := by
    intro n
    induction n with
    | zero =>
      intro y2 y3 S H locs ls ry2 ry3 hl G h
      exact absurd h id
    | succ n ih =>
      intro y2 y3 S H locs ls ry2 ry3 hl G h
      rw [B_X11_run_17] at h
      refine gx_iload_n C hl dX11_run_17 rfl ?_
      refine gx_iload_n C hl dX11_run_18 rfl ?_
      refine gx_icmp_ge (tgt := 35) C ry3 rx1 dX11_run_19 (by decide) (fun c1 => ?_) (fun c1 => ?_)
      · have h := h.1 c1
        refine gx_iload_n C hl dX11_run_35 rfl ?_
        exact gx_iret C G hret ry2 h dX11_run_36
      · have h := h.2 c1
        refine gx_iload_n C hl dX11_run_22 rfl ?_
        refine gx_aload_n C hl dX11_run_23 rfl ?_
        refine gx_callV C G hl hml (c_X11_passTick l D cy ad hV h) rfl (fX11_o hV) (by rw [(fX11_c hV)]; rfl) (by rw [(fX11_c hV)]; decide) rfl uw_505 uw_502 uw_504 up_1 uw_1 hd_X11_passTick ⟨Nat.le_of_ble_eq_true rfl, Nat.le_of_ble_eq_true rfl⟩ ⟨Nat.zero_le _, Nat.zero_le _⟩ rfl rfl (hw_le ad [.inl y2] rfl (Nat.le_of_ble_eq_true rfl)) dX11_run_24 (kkI (fun t3 S2 H locs rt3 h G => ?_))
        obtain ⟨h4, h⟩ := h
        refine gx_iadd C dX11_run_27 ?_
        refine gx_istore_n C hl dX11_run_28 (Nat.le_of_ble_eq_true rfl) (PL' := [some (.inr (some o)), some (.inl x1), some (.inl (y2 + t3)), some (.inl y3)]) rfl (fun ls hl => ?_)
        obtain ⟨h5, h⟩ := h
        refine gx_iinc C hl dX11_run_29 rfl (PL' := [some (.inr (some o)), some (.inl x1), some (.inl (y2 + t3)), some (.inl (y3 + 1))]) rfl (fun ls hl => ?_)
        refine gx_goto (tgt := 17) C dX11_run_32 (by decide) ?_
        exact ih (y2 + t3) (y3 + 1) S2 H locs ls h4 h5 hl G h
  clear eA
  unfold PT_X11_run at h
  refine gx_iload_n C hl dX11_run_0 rfl ?_
  refine gx_iconst C dX11_run_1 ?_
  refine gx_sipush C dX11_run_2 (by decide) ?_
  refine gx_callS C G hl hml (c_X11_isWithin l D cy ad rx1 (show rng 1 by decide) (show rng 500 by decide) h) uw_270 uw_268 uw_269 uw_1 hd_X11_isWithin ⟨Nat.le_of_ble_eq_true rfl, Nat.le_of_ble_eq_true rfl⟩ ⟨Nat.zero_le _, Nat.zero_le _⟩ rfl rfl (hw_le ad [] rfl (Nat.le_of_ble_eq_true rfl)) dX11_run_5 (kkI (fun t7 S6 H locs rt7 h G => ?_))
  refine gx_if_ne (tgt := 13) C rt7 dX11_run_8 (by decide) (fun c8 => ?_) (fun c8 => ?_)
  · have h := h.1 c8
    refine gx_iconst C dX11_run_13 ?_
    refine gx_istore_n C hl dX11_run_14 (Nat.le_of_ble_eq_true rfl) (PL' := [some (.inr (some o)), some (.inl x1), some (.inl 0), none]) rfl (fun ls hl => ?_)
    refine gx_iconst C dX11_run_15 ?_
    refine gx_istore_n C hl dX11_run_16 (Nat.le_of_ble_eq_true rfl) (PL' := [some (.inr (some o)), some (.inl x1), some (.inl 0), some (.inl 0)]) rfl (fun ls hl => ?_)
    obtain ⟨n9, h⟩ := h
    exact b17 n9 0 0 S6 H locs ls (show rng 0 by decide) (show rng 0 by decide) hl G h
  · have h := h.2 c8
    refine gx_iconst C dX11_run_11 ?_
    exact gx_iret C G hret (show rng (-1) by decide) h dX11_run_12
def B_X11_drain_41 (V : Vt) (o : Nat) (x1 : Int) (y2 : Int) (S : Me) (Q : Int → Me → Prop) : Prop := Q y2 S
def B_X11_drain_15 (V : Vt) (o : Nat) (x1 : Int) (Q : Int → Me → Prop) : Nat → (Int → Me → Prop)
  | 0 => fun _ _ => False
  | n + 1 => fun y2 S => ((x1 ≤ y2 → B_X11_drain_41 V o x1 y2 S Q) ∧ (¬ x1 ≤ y2 → (((S.1 (o + 28) 7) ≤ 0 → B_X11_drain_41 V o x1 y2 S Q) ∧ (¬ (S.1 (o + 28) 7) ≤ 0 → PT_X11_passTick V o S (fun t5 S4 => (rng (y2 + 1)) ∧ B_X11_drain_15 V o x1 Q n (y2 + 1) S4)))))
def PT_X11_drain (V : Vt) (o : Nat) (x1 : Int) (S : Me) (Q : Int → Me → Prop) : Prop := PT_X11_isWithin V x1 1 500 S (fun t8 S7 => ((¬ t8 = 0 → (∃ n9 : Nat, B_X11_drain_15 V o x1 Q n9 0 S7)) ∧ (t8 = 0 → Q (-1) S7)))
theorem hd_X11_drain : yX11_drain.cls ≠ "java/lang/invoke/MethodHandle" ∧ yX11_drain.cls ≠ "java/lang/invoke/VarHandle" ∧ (parseMethodDescriptor yX11_drain.desc).map (fun d => d.parameters.length) = some 1 := by decide +kernel
set_option maxHeartbeats 4000000 in
set_option maxRecDepth 100000 in
theorem c_X11_drain (l : Launch) (D : va_G) (cy : ClassId × ClassId × ClassId × ClassId) (ad : Nat → Nat) {V : Vt} {S : Me} {o : Nat} {x1 : Int} (hV : fX11 V o) (rx1 : rng x1) {Q : Int → Me → Prop} (h : PT_X11_drain V o x1 S Q) : KM l D cy yX11_drain cX11_drain 3 (Option.some Jvm.ClassFile.FieldType.int) 6 141 ad V S [.inr (some o), .inl x1] (qI Q) := by
  refine KM.of (by decide) rfl (Nat.le_of_ble_eq_true rfl) (own := RX11) (fun p e s m args below meth c A ls H locs eA C hret hml hmn hl G => ?_)
  have hl : lo ad ls [some (.inr (some o)), some (.inl x1), none] := hl
  have b41 : ∀ (y2 : Int) (S : Me) (H : Heap) (locs : List Loc) (ls : Array Slot), rng y2 → lo ad ls [some (.inr (some o)), some (.inl x1), some (.inl y2)] → Gy D cy A s.heap ad V S H locs → B_X11_drain_41 V o x1 y2 S Q → W p l e (rmx 6 141) s m args below meth c H locs 0 0 (qm below D cy ad V A args s (qI Q)) (F0 m 41 ls []) := by
    intro y2 S H locs ls ry2 hl G h
    unfold B_X11_drain_41 at h
    refine gx_iload_n C hl dX11_drain_41 rfl ?_
    exact gx_iret C G hret ry2 h dX11_drain_42
  have b15 : ∀ (n : Nat) (y2 : Int) (S : Me) (H : Heap) (locs : List Loc) (ls : Array Slot), rng y2 → lo ad ls [some (.inr (some o)), some (.inl x1), some (.inl y2)] → Gy D cy A s.heap ad V S H locs → B_X11_drain_15 V o x1 Q n y2 S → W p l e (rmx 6 141) s m args below meth c H locs 0 0 (qm below D cy ad V A args s (qI Q)) (F0 m 15 ls []) := by
    intro n
    induction n with
    | zero =>
      intro y2 S H locs ls ry2 hl G h
      exact absurd h id
    | succ n ih =>
      intro y2 S H locs ls ry2 hl G h
      rw [B_X11_drain_15] at h
      refine gx_iload_n C hl dX11_drain_15 rfl ?_
      refine gx_iload_n C hl dX11_drain_16 rfl ?_
      refine gx_icmp_ge (tgt := 41) C ry2 rx1 dX11_drain_17 (by decide) (fun c1 => ?_) (fun c1 => ?_)
      · have h := h.1 c1
        exact b41 y2 S H locs ls ry2 hl G h
      · have h := h.2 c1
        refine gx_aload_n C hl dX11_drain_20 rfl ?_
        refine gx_getF C G rfl (fX11_o hV) (fo10_4 (fX11_c hV)) (fX11_queue hV) uw_219 (fun _ h9 => h9) dX11_drain_21 ?_
        refine gx_getI C G rfl (fX7_o (fX11_queue_s hV)) (fo6_7 (fX7_c (fX11_queue_s hV))) uw_162 (fun _ h9 => h9) dX11_drain_24 ?_
        have r2 := G.r (o + 28) 7
        refine gx_if_le (tgt := 41) C r2 dX11_drain_27 (by decide) (fun c3 => ?_) (fun c3 => ?_)
        · have h := h.1 c3
          exact b41 y2 S H locs ls ry2 hl G h
        · have h := h.2 c3
          refine gx_aload_n C hl dX11_drain_30 rfl ?_
          refine gx_callV C G hl hml (c_X11_passTick l D cy ad hV h) rfl (fX11_o hV) (by rw [(fX11_c hV)]; rfl) (by rw [(fX11_c hV)]; decide) rfl uw_505 uw_502 uw_504 up_1 uw_1 hd_X11_passTick ⟨Nat.le_of_ble_eq_true rfl, Nat.le_of_ble_eq_true rfl⟩ ⟨Nat.zero_le _, Nat.zero_le _⟩ rfl rfl (hw_le ad [] rfl (Nat.le_of_ble_eq_true rfl)) dX11_drain_31 (kkI (fun t5 S4 H locs rt5 h G => ?_))
          refine gx_popI C dX11_drain_34 ?_
          obtain ⟨h6, h⟩ := h
          refine gx_iinc C hl dX11_drain_35 rfl (PL' := [some (.inr (some o)), some (.inl x1), some (.inl (y2 + 1))]) rfl (fun ls hl => ?_)
          refine gx_goto (tgt := 15) C dX11_drain_38 (by decide) ?_
          exact ih (y2 + 1) S4 H locs ls h6 hl G h
  clear eA
  unfold PT_X11_drain at h
  refine gx_iload_n C hl dX11_drain_0 rfl ?_
  refine gx_iconst C dX11_drain_1 ?_
  refine gx_sipush C dX11_drain_2 (by decide) ?_
  refine gx_callS C G hl hml (c_X11_isWithin l D cy ad rx1 (show rng 1 by decide) (show rng 500 by decide) h) uw_270 uw_268 uw_269 uw_1 hd_X11_isWithin ⟨Nat.le_of_ble_eq_true rfl, Nat.le_of_ble_eq_true rfl⟩ ⟨Nat.zero_le _, Nat.zero_le _⟩ rfl rfl (hw_le ad [] rfl (Nat.le_of_ble_eq_true rfl)) dX11_drain_5 (kkI (fun t8 S7 H locs rt8 h G => ?_))
  refine gx_if_ne (tgt := 13) C rt8 dX11_drain_8 (by decide) (fun c9 => ?_) (fun c9 => ?_)
  · have h := h.1 c9
    refine gx_iconst C dX11_drain_13 ?_
    refine gx_istore_n C hl dX11_drain_14 (Nat.le_of_ble_eq_true rfl) (PL' := [some (.inr (some o)), some (.inl x1), some (.inl 0)]) rfl (fun ls hl => ?_)
    obtain ⟨n9, h⟩ := h
    exact b15 n9 0 S7 H locs ls (show rng 0 by decide) hl G h
  · have h := h.2 c9
    refine gx_iconst C dX11_drain_11 ?_
    exact gx_iret C G hret (show rng (-1) by decide) h dX11_drain_12
def PT_X11_next (V : Vt) (o : Nat) (S : Me) (Q : Int → Me → Prop) : Prop := PT_X11_owedThisTick V o S (fun t2 S1 => PT_X11_choose V o t2 S1 (fun t4 S3 => Q t4 S3))
theorem hd_X11_next : yX11_next.cls ≠ "java/lang/invoke/MethodHandle" ∧ yX11_next.cls ≠ "java/lang/invoke/VarHandle" ∧ (parseMethodDescriptor yX11_next.desc).map (fun d => d.parameters.length) = some 0 := by decide +kernel
set_option maxHeartbeats 4000000 in
set_option maxRecDepth 100000 in
theorem c_X11_next (l : Launch) (D : va_G) (cy : ClassId × ClassId × ClassId × ClassId) (ad : Nat → Nat) {V : Vt} {S : Me} {o : Nat} (hV : fX11 V o) {Q : Int → Me → Prop} (h : PT_X11_next V o S Q) : KM l D cy yX11_next cX11_next 1 (Option.some Jvm.ClassFile.FieldType.int) 5 119 ad V S [.inr (some o)] (qI Q) := by
  refine KM.of (by decide) rfl (Nat.le_of_ble_eq_true rfl) (own := RX11) (fun p e s m args below meth c A ls H locs eA C hret hml hmn hl G => ?_)
  have hl : lo ad ls [some (.inr (some o))] := hl
  clear eA
  unfold PT_X11_next at h
  refine gx_aload_n C hl dX11_next_0 rfl ?_
  refine gx_aload_n C hl dX11_next_1 rfl ?_
  refine gx_callV C G hl hml (c_X11_owedThisTick l D cy ad hV h) rfl (fX11_o hV) (by rw [(fX11_c hV)]; rfl) (by rw [(fX11_c hV)]; decide) rfl uw_509 uw_506 uw_508 up_2 uw_1 hd_X11_owedThisTick ⟨Nat.le_of_ble_eq_true rfl, Nat.le_of_ble_eq_true rfl⟩ ⟨Nat.zero_le _, Nat.zero_le _⟩ rfl rfl (hw_le ad [.inr (some o)] rfl (Nat.le_of_ble_eq_true rfl)) dX11_next_2 (kkI (fun t2 S1 H locs rt2 h G => ?_))
  refine gx_callV C G hl hml (c_X11_choose l D cy ad hV rt2 h) rfl (fX11_o hV) (by rw [(fX11_c hV)]; rfl) (by rw [(fX11_c hV)]; decide) rfl uw_521 uw_518 uw_520 up_4 uw_1 hd_X11_choose ⟨Nat.le_of_ble_eq_true rfl, Nat.le_of_ble_eq_true rfl⟩ ⟨Nat.zero_le _, Nat.zero_le _⟩ rfl rfl (hw_le ad [] rfl (Nat.le_of_ble_eq_true rfl)) dX11_next_5 (kkI (fun t4 S3 H locs rt4 h G => ?_))
  exact gx_iret C G hret rt4 h dX11_next_8
def PT_X11_look (V : Vt) (o : Nat) (x1 : Int) (x2 : Int) (S : Me) (Q : Int → Me → Prop) : Prop := PT_X7_find V (o + 28) x1 S (fun t2 S1 => ((¬ t2 = none → ((x2 = 0 → ∃ z6 : Nat, t2 = some z6 ∧ isA (V.2.1 z6) ∧ PV_kind V z6 S1 (fun t5 S4 => Q t5 S4)) ∧ (x2 = 1 → ∃ z8 : Nat, t2 = some z8 ∧ isA (V.2.1 z8) ∧ Q (S1.1 z8 1) S1) ∧ (x2 = 2 → ∃ z11 : Nat, t2 = some z11 ∧ isA (V.2.1 z11) ∧ Q (S1.1 z11 2) S1) ∧ (x2 = 3 → ∃ z14 : Nat, t2 = some z14 ∧ isA (V.2.1 z14) ∧ Q (S1.1 z14 5) S1) ∧ (x2 = 4 → ∃ z17 : Nat, t2 = some z17 ∧ isA (V.2.1 z17) ∧ Q (S1.1 z17 6) S1) ∧ (x2 = 5 → ∃ z20 : Nat, t2 = some z20 ∧ isA (V.2.1 z20) ∧ Q (S1.1 z20 7) S1) ∧ (x2 = 6 → ∃ z23 : Nat, t2 = some z23 ∧ isA (V.2.1 z23) ∧ ((¬ (S1.1 z23 6) = 0 → Q 0 S1) ∧ ((S1.1 z23 6) = 0 → PT_X7_isHeld V (o + 28) t2 1 S1 (fun t27 S26 => ((t27 = 0 → Q 0 S26) ∧ (¬ t27 = 0 → Q 1 S26)))))) ∧ ((x2 < 0 ∨ 6 < x2) → Q (-1) S1))) ∧ (t2 = none → Q (-1) S1)))
theorem hd_X11_look : yX11_look.cls ≠ "java/lang/invoke/MethodHandle" ∧ yX11_look.cls ≠ "java/lang/invoke/VarHandle" ∧ (parseMethodDescriptor yX11_look.desc).map (fun d => d.parameters.length) = some 2 := by decide +kernel
set_option maxHeartbeats 4000000 in
set_option maxRecDepth 100000 in
theorem c_X11_look (l : Launch) (D : va_G) (cy : ClassId × ClassId × ClassId × ClassId) (ad : Nat → Nat) {V : Vt} {S : Me} {o : Nat} {x1 : Int} {x2 : Int} (hV : fX11 V o) (rx1 : rng x1) (rx2 : rng x2) {Q : Int → Me → Prop} (h : PT_X11_look V o x1 x2 S Q) : KM l D cy yX11_look cX11_look 4 (Option.some Jvm.ClassFile.FieldType.int) 3 65 ad V S [.inr (some o), .inl x1, .inl x2] (qI Q) := by
  refine KM.of (by decide) rfl (Nat.le_of_ble_eq_true rfl) (own := RX11) (fun p e s m args below meth c A ls H locs eA C hret hml hmn hl G => ?_)
  have hl : lo ad ls [some (.inr (some o)), some (.inl x1), some (.inl x2), none] := hl
  clear eA
  unfold PT_X11_look at h
  refine gx_aload_n C hl dX11_look_0 rfl ?_
  refine gx_getF C G rfl (fX11_o hV) (fo10_4 (fX11_c hV)) (fX11_queue hV) uw_219 (fun _ h9 => h9) dX11_look_1 ?_
  refine gx_iload_n C hl dX11_look_4 rfl ?_
  refine gx_callV C G hl hml (c_X7_find l D cy ad (fX11_queue_s hV) rx1 h) rfl (fX7_o (fX11_queue_s hV)) (by rw [(fX7_c (fX11_queue_s hV))]; rfl) (by rw [(fX7_c (fX11_queue_s hV))]; decide) rfl uw_669 uw_666 uw_667 uw_668 uw_6 hd_X7_find ⟨Nat.le_of_ble_eq_true rfl, Nat.le_of_ble_eq_true rfl⟩ ⟨Nat.zero_le _, Nat.zero_le _⟩ rfl rfl (hw_le ad [] rfl (Nat.le_of_ble_eq_true rfl)) dX11_look_5 (kkR (fun t2 S1 H locs vt2 h G => ?_))
  refine gx_astore_n C hl dX11_look_8 (Nat.le_of_ble_eq_true rfl) (PL' := [some (.inr (some o)), some (.inl x1), some (.inl x2), some (.inr t2)]) rfl (fun ls hl => ?_)
  refine gx_aload_n C hl dX11_look_9 rfl ?_
  refine gx_ifnonnull (tgt := 15) C dX11_look_10 (by decide) (fun c3 => ?_) (fun c3 => ?_)
  · have h := h.1 c3
    refine gx_iload_n C hl dX11_look_15 rfl ?_
    by_cases c7 : x2 = 0
    · refine gx_tableIn (tgt := 60) C rx2 dX11_look_16 0 c7 (by decide) (by decide) rfl (by decide) ?_
      have h := h.1 c7
      refine gx_aload_n C hl dX11_look_60 rfl ?_
      obtain ⟨z6, hz6, tz6, h⟩ := h
      have lz6 := (vt2 z6 hz6)
      refine gv_11_222 C G hl hml hz6 lz6 tz6 h ⟨Nat.le_of_ble_eq_true rfl, Nat.le_of_ble_eq_true rfl⟩ ⟨Nat.zero_le _, Nat.zero_le _⟩ (hw_le ad [] rfl (Nat.le_of_ble_eq_true rfl)) dX11_look_61 (fun t5 S4 H locs rt5 h G => ?_)
      exact gx_iret C G hret rt5 h dX11_look_64
    · by_cases c10 : x2 = 1
      · refine gx_tableIn (tgt := 65) C rx2 dX11_look_16 1 c10 (by decide) (by decide) rfl (by decide) ?_
        have h := h.2.1 c10
        refine gx_aload_n C hl dX11_look_65 rfl ?_
        obtain ⟨z8, hz8, tz8, h⟩ := h
        have lz8 := (vt2 z8 hz8)
        refine gx_getI C G hz8 lz8 (foA_1 tz8) uw_311 (fun _ h9 => h9) dX11_look_66 ?_
        have r9 := G.r z8 1
        exact gx_iret C G hret r9 h dX11_look_69
      · by_cases c13 : x2 = 2
        · refine gx_tableIn (tgt := 70) C rx2 dX11_look_16 2 c13 (by decide) (by decide) rfl (by decide) ?_
          have h := h.2.2.1 c13
          refine gx_aload_n C hl dX11_look_70 rfl ?_
          obtain ⟨z11, hz11, tz11, h⟩ := h
          have lz11 := (vt2 z11 hz11)
          refine gx_getI C G hz11 lz11 (foA_2 tz11) uw_316 (fun _ h9 => h9) dX11_look_71 ?_
          have r12 := G.r z11 2
          exact gx_iret C G hret r12 h dX11_look_74
        · by_cases c16 : x2 = 3
          · refine gx_tableIn (tgt := 75) C rx2 dX11_look_16 3 c16 (by decide) (by decide) rfl (by decide) ?_
            have h := h.2.2.2.1 c16
            refine gx_aload_n C hl dX11_look_75 rfl ?_
            obtain ⟨z14, hz14, tz14, h⟩ := h
            have lz14 := (vt2 z14 hz14)
            refine gx_getI C G hz14 lz14 (foA_5 tz14) uw_328 (fun _ h9 => h9) dX11_look_76 ?_
            have r15 := G.r z14 5
            exact gx_iret C G hret r15 h dX11_look_79
          · by_cases c19 : x2 = 4
            · refine gx_tableIn (tgt := 80) C rx2 dX11_look_16 4 c19 (by decide) (by decide) rfl (by decide) ?_
              have h := h.2.2.2.2.1 c19
              refine gx_aload_n C hl dX11_look_80 rfl ?_
              obtain ⟨z17, hz17, tz17, h⟩ := h
              have lz17 := (vt2 z17 hz17)
              refine gx_getI C G hz17 lz17 (foA_6 tz17) uw_331 (fun _ h9 => h9) dX11_look_81 ?_
              have r18 := G.r z17 6
              exact gx_iret C G hret r18 h dX11_look_84
            · by_cases c22 : x2 = 5
              · refine gx_tableIn (tgt := 85) C rx2 dX11_look_16 5 c22 (by decide) (by decide) rfl (by decide) ?_
                have h := h.2.2.2.2.2.1 c22
                refine gx_aload_n C hl dX11_look_85 rfl ?_
                obtain ⟨z20, hz20, tz20, h⟩ := h
                have lz20 := (vt2 z20 hz20)
                refine gx_getI C G hz20 lz20 (foA_7 tz20) uw_335 (fun _ h9 => h9) dX11_look_86 ?_
                have r21 := G.r z20 7
                exact gx_iret C G hret r21 h dX11_look_89
              · by_cases c29 : x2 = 6
                · refine gx_tableIn (tgt := 90) C rx2 dX11_look_16 6 c29 (by decide) (by decide) rfl (by decide) ?_
                  have h := h.2.2.2.2.2.2.1 c29
                  refine gx_aload_n C hl dX11_look_90 rfl ?_
                  obtain ⟨z23, hz23, tz23, h⟩ := h
                  have lz23 := (vt2 z23 hz23)
                  refine gx_getI C G hz23 lz23 (foA_6 tz23) uw_331 (fun _ h9 => h9) dX11_look_91 ?_
                  have r24 := G.r z23 6
                  refine gx_if_ne (tgt := 113) C r24 dX11_look_94 (by decide) (fun c25 => ?_) (fun c25 => ?_)
                  · have h := h.1 c25
                    refine gx_iconst C dX11_look_113 ?_
                    exact gx_iret C G hret (show rng 0 by decide) h dX11_look_114
                  · have h := h.2 c25
                    refine gx_aload_n C hl dX11_look_97 rfl ?_
                    refine gx_getF C G rfl (fX11_o hV) (fo10_4 (fX11_c hV)) (fX11_queue hV) uw_219 (fun _ h9 => h9) dX11_look_98 ?_
                    refine gx_aload_n C hl dX11_look_101 rfl ?_
                    refine gx_iconst C dX11_look_102 ?_
                    refine gx_callV C G hl hml (c_X7_isHeld l D cy ad (fX11_queue_s hV) vt2 (show rng 1 by decide) h) rfl (fX7_o (fX11_queue_s hV)) (by rw [(fX7_c (fX11_queue_s hV))]; rfl) (by rw [(fX7_c (fX11_queue_s hV))]; decide) rfl uw_567 uw_564 uw_565 uw_566 uw_6 hd_X7_isHeld ⟨Nat.le_of_ble_eq_true rfl, Nat.le_of_ble_eq_true rfl⟩ ⟨Nat.zero_le _, Nat.zero_le _⟩ rfl rfl (hw_le ad [] rfl (Nat.le_of_ble_eq_true rfl)) dX11_look_103 (kkI (fun t27 S26 H locs rt27 h G => ?_))
                    refine gx_if_eq (tgt := 113) C rt27 dX11_look_106 (by decide) (fun c28 => ?_) (fun c28 => ?_)
                    · have h := h.1 c28
                      refine gx_iconst C dX11_look_113 ?_
                      exact gx_iret C G hret (show rng 0 by decide) h dX11_look_114
                    · have h := h.2 c28
                      refine gx_iconst C dX11_look_109 ?_
                      refine gx_goto (tgt := 114) C dX11_look_110 (by decide) ?_
                      exact gx_iret C G hret (show rng 1 by decide) h dX11_look_114
                · have c30 : x2 < 0 ∨ 6 < x2 := by omega
                  refine gx_tableOut (tgt := 115) C rx2 dX11_look_16 c30 (by decide) ?_
                  have h := h.2.2.2.2.2.2.2 c30
                  refine gx_iconst C dX11_look_115 ?_
                  exact gx_iret C G hret (show rng (-1) by decide) h dX11_look_116
  · have h := h.2 c3
    refine gx_iconst C dX11_look_13 ?_
    exact gx_iret C G hret (show rng (-1) by decide) h dX11_look_14
def B_X11_at_28 (V : Vt) (o : Nat) (x1 : Int) (Q : Int → Me → Prop) : Nat → (Int → Option Nat → Me → Prop)
  | 0 => fun _ _ _ => False
  | n + 1 => fun y2 y3 S => ((y3 = none → Q (-2) S) ∧ (¬ y3 = none → ((¬ y2 = x1 → (rng (y2 + 1)) ∧ ∃ z4 : Nat, y3 = some z4 ∧ isA (V.2.1 z4) ∧ B_X11_at_28 V o x1 Q n (y2 + 1) (S.2 z4 9) S) ∧ (y2 = x1 → ∃ z6 : Nat, y3 = some z6 ∧ isA (V.2.1 z6) ∧ Q (S.1 z6 0) S))))
def PT_X11_at (V : Vt) (o : Nat) (x1 : Int) (S : Me) (Q : Int → Me → Prop) : Prop := ((0 ≤ x1 → PT_X7_arrange V (o + 28) (S.1 o 10) (S.1 o 11) (some (o + 25)) S (fun t12 S11 => (∃ n9 : Nat, B_X11_at_28 V o x1 Q n9 0 t12 S11))) ∧ (¬ 0 ≤ x1 → Q (-1) S))
theorem hd_X11_at : yX11_at.cls ≠ "java/lang/invoke/MethodHandle" ∧ yX11_at.cls ≠ "java/lang/invoke/VarHandle" ∧ (parseMethodDescriptor yX11_at.desc).map (fun d => d.parameters.length) = some 1 := by decide +kernel
set_option maxHeartbeats 4000000 in
set_option maxRecDepth 100000 in
theorem c_X11_at (l : Launch) (D : va_G) (cy : ClassId × ClassId × ClassId × ClassId) (ad : Nat → Nat) {V : Vt} {S : Me} {o : Nat} {x1 : Int} (hV : fX11 V o) (rx1 : rng x1) {Q : Int → Me → Prop} (h : PT_X11_at V o x1 S Q) : KM l D cy yX11_at cX11_at 4 (Option.some Jvm.ClassFile.FieldType.int) 3 66 ad V S [.inr (some o), .inl x1] (qI Q) := by
  refine KM.of (by decide) rfl (Nat.le_of_ble_eq_true rfl) (own := RX11) (fun p e s m args below meth c A ls H locs eA C hret hml hmn hl G => ?_)
  have hl : lo ad ls [some (.inr (some o)), some (.inl x1), none, none] := hl
  have b28 : ∀ (n : Nat) (y2 : Int) (y3 : Option Nat) (S : Me) (H : Heap) (locs : List Loc) (ls : Array Slot), rng y2 → (∀ z, y3 = some z → z < V.1) → lo ad ls [some (.inr (some o)), some (.inl x1), some (.inl y2), some (.inr y3)] → Gy D cy A s.heap ad V S H locs → B_X11_at_28 V o x1 Q n y2 y3 S → W p l e (rmx 3 66) s m args below meth c H locs 0 0 (qm below D cy ad V A args s (qI Q)) (F0 m 28 ls []) := by
    intro n
    induction n with
    | zero =>
      intro y2 y3 S H locs ls ry2 vy3 hl G h
      exact absurd h id
    | succ n ih =>
      intro y2 y3 S H locs ls ry2 vy3 hl G h
      rw [B_X11_at_28] at h
      refine gx_aload_n C hl dX11_at_28 rfl ?_
      refine gx_ifnull (tgt := 53) C dX11_at_29 (by decide) (fun c1 => ?_) (fun c1 => ?_)
      · have h := h.1 c1
        refine gx_bipush C dX11_at_53 (by decide) ?_
        exact gx_iret C G hret (show rng (-2) by decide) h dX11_at_55
      · have h := h.2 c1
        refine gx_iload_n C hl dX11_at_32 rfl ?_
        refine gx_iload_n C hl dX11_at_33 rfl ?_
        refine gx_icmp_ne (tgt := 42) C ry2 rx1 dX11_at_34 (by decide) (fun c2 => ?_) (fun c2 => ?_)
        · have h := h.1 c2
          obtain ⟨h3, h⟩ := h
          refine gx_iinc C hl dX11_at_42 rfl (PL' := [some (.inr (some o)), some (.inl x1), some (.inl (y2 + 1)), some (.inr y3)]) rfl (fun ls hl => ?_)
          refine gx_aload_n C hl dX11_at_45 rfl ?_
          obtain ⟨z4, hz4, tz4, h⟩ := h
          have lz4 := (vy3 z4 hz4)
          refine gx_getP C G hz4 lz4 (foA_9 tz4) uw_340 (fun _ h9 => h9) dX11_at_46 ?_
          have v5 := G.v z4 9
          refine gx_astore_n C hl dX11_at_49 (Nat.le_of_ble_eq_true rfl) (PL' := [some (.inr (some o)), some (.inl x1), some (.inl (y2 + 1)), some (.inr (S.2 z4 9))]) rfl (fun ls hl => ?_)
          refine gx_goto (tgt := 28) C dX11_at_50 (by decide) ?_
          exact ih (y2 + 1) (S.2 z4 9) S H locs ls h3 v5 hl G h
        · have h := h.2 c2
          refine gx_aload_n C hl dX11_at_37 rfl ?_
          obtain ⟨z6, hz6, tz6, h⟩ := h
          have lz6 := (vy3 z6 hz6)
          refine gx_getI C G hz6 lz6 (foA_0 tz6) uw_308 (fun _ h9 => h9) dX11_at_38 ?_
          have r7 := G.r z6 0
          exact gx_iret C G hret r7 h dX11_at_41
  clear eA
  unfold PT_X11_at at h
  refine gx_iload_n C hl dX11_at_0 rfl ?_
  refine gx_if_ge (tgt := 6) C rx1 dX11_at_1 (by decide) (fun c8 => ?_) (fun c8 => ?_)
  · have h := h.1 c8
    refine gx_iconst C dX11_at_6 ?_
    refine gx_istore_n C hl dX11_at_7 (Nat.le_of_ble_eq_true rfl) (PL' := [some (.inr (some o)), some (.inl x1), some (.inl 0), none]) rfl (fun ls hl => ?_)
    refine gx_aload_n C hl dX11_at_8 rfl ?_
    refine gx_getF C G rfl (fX11_o hV) (fo10_4 (fX11_c hV)) (fX11_queue hV) uw_219 (fun _ h9 => h9) dX11_at_9 ?_
    refine gx_aload_n C hl dX11_at_12 rfl ?_
    refine gx_getI C G rfl (fX11_o hV) (fo10_10 (fX11_c hV)) uw_225 (fun _ h9 => h9) dX11_at_13 ?_
    have r9 := G.r o 10
    refine gx_aload_n C hl dX11_at_16 rfl ?_
    refine gx_getI C G rfl (fX11_o hV) (fo10_11 (fX11_c hV)) uw_226 (fun _ h9 => h9) dX11_at_17 ?_
    have r10 := G.r o 11
    refine gx_aload_n C hl dX11_at_20 rfl ?_
    refine gx_getF C G rfl (fX11_o hV) (fo10_3 (fX11_c hV)) (fX11_memory hV) uw_218 (fun _ h9 => h9) dX11_at_21 ?_
    refine gx_callV C G hl hml (c_X7_arrange l D cy ad (fX11_queue_s hV) r9 r10 (vsome (fX4_o (fX11_memory_s hV))) h) rfl (fX7_o (fX11_queue_s hV)) (by rw [(fX7_c (fX11_queue_s hV))]; rfl) (by rw [(fX7_c (fX11_queue_s hV))]; decide) rfl uw_556 uw_553 uw_554 uw_555 uw_6 hd_X7_arrange ⟨Nat.le_of_ble_eq_true rfl, Nat.le_of_ble_eq_true rfl⟩ ⟨Nat.zero_le _, Nat.zero_le _⟩ rfl rfl (hw_le ad [] rfl (Nat.le_of_ble_eq_true rfl)) dX11_at_24 (kkR (fun t12 S11 H locs vt12 h G => ?_))
    refine gx_astore_n C hl dX11_at_27 (Nat.le_of_ble_eq_true rfl) (PL' := [some (.inr (some o)), some (.inl x1), some (.inl 0), some (.inr t12)]) rfl (fun ls hl => ?_)
    obtain ⟨n9, h⟩ := h
    exact b28 n9 0 t12 S11 H locs ls (show rng 0 by decide) vt12 hl G h
  · have h := h.2 c8
    refine gx_iconst C dX11_at_4 ?_
    exact gx_iret C G hret (show rng (-1) by decide) h dX11_at_5
def B_X11_soonest_23 (V : Vt) (o : Nat) (x1 : Int) (x2 : Int) (S : Me) (Q : Int → Me → Prop) : Prop := PT_X4_allows V (o + 25) x1 x2 S (fun t2 S1 => ((¬ t2 = 0 → PT_X5_leastTick V (o + 2) (some (o + 1)) x1 x2 S1 (fun t6 S5 => Q (if (S1.1 o 6) < t6 then t6 else (S1.1 o 6)) S5)) ∧ (t2 = 0 → Q (-2) S1)))
def PT_X11_soonest (V : Vt) (o : Nat) (x1 : Int) (x2 : Int) (S : Me) (Q : Int → Me → Prop) : Prop := PT_X11_isWithin V x1 0 4 S (fun t8 S7 => ((t8 = 0 → Q (-1) S7) ∧ (¬ t8 = 0 → ((x1 = 4 → B_X11_soonest_23 V o x1 x2 S7 Q) ∧ (¬ x1 = 4 → PT_X11_isBank V x2 S7 (fun t12 S11 => ((¬ t12 = 0 → B_X11_soonest_23 V o x1 x2 S11 Q) ∧ (t12 = 0 → Q (-1) S11))))))))
theorem hd_X11_soonest : yX11_soonest.cls ≠ "java/lang/invoke/MethodHandle" ∧ yX11_soonest.cls ≠ "java/lang/invoke/VarHandle" ∧ (parseMethodDescriptor yX11_soonest.desc).map (fun d => d.parameters.length) = some 2 := by decide +kernel
set_option maxHeartbeats 4000000 in
set_option maxRecDepth 100000 in
theorem c_X11_soonest (l : Launch) (D : va_G) (cy : ClassId × ClassId × ClassId × ClassId) (ad : Nat → Nat) {V : Vt} {S : Me} {o : Nat} {x1 : Int} {x2 : Int} (hV : fX11 V o) (rx1 : rng x1) (rx2 : rng x2) {Q : Int → Me → Prop} (h : PT_X11_soonest V o x1 x2 S Q) : KM l D cy yX11_soonest cX11_soonest 3 (Option.some Jvm.ClassFile.FieldType.int) 2 49 ad V S [.inr (some o), .inl x1, .inl x2] (qI Q) := by
  refine KM.of (by decide) rfl (Nat.le_of_ble_eq_true rfl) (own := RX11) (fun p e s m args below meth c A ls H locs eA C hret hml hmn hl G => ?_)
  have hl : lo ad ls [some (.inr (some o)), some (.inl x1), some (.inl x2)] := hl
  have b23 : ∀ (S : Me) (H : Heap) (locs : List Loc) (ls : Array Slot), lo ad ls [some (.inr (some o)), some (.inl x1), some (.inl x2)] → Gy D cy A s.heap ad V S H locs → B_X11_soonest_23 V o x1 x2 S Q → W p l e (rmx 2 49) s m args below meth c H locs 0 0 (qm below D cy ad V A args s (qI Q)) (F0 m 23 ls []) := by
    intro S H locs ls hl G h
    unfold B_X11_soonest_23 at h
    refine gx_aload_n C hl dX11_soonest_23 rfl ?_
    refine gx_getF C G rfl (fX11_o hV) (fo10_3 (fX11_c hV)) (fX11_memory hV) uw_218 (fun _ h9 => h9) dX11_soonest_24 ?_
    refine gx_iload_n C hl dX11_soonest_27 rfl ?_
    refine gx_iload_n C hl dX11_soonest_28 rfl ?_
    refine gx_callV C G hl hml (c_X4_allows l D cy ad (fX11_memory_s hV) rx1 rx2 h) rfl (fX4_o (fX11_memory_s hV)) (by rw [(fX4_c (fX11_memory_s hV))]; rfl) (by rw [(fX4_c (fX11_memory_s hV))]; decide) rfl uw_533 uw_530 uw_531 uw_532 uw_5 hd_X4_allows ⟨Nat.le_of_ble_eq_true rfl, Nat.le_of_ble_eq_true rfl⟩ ⟨Nat.zero_le _, Nat.zero_le _⟩ rfl rfl (hw_le ad [] rfl (Nat.le_of_ble_eq_true rfl)) dX11_soonest_29 (kkI (fun t2 S1 H locs rt2 h G => ?_))
    refine gx_if_ne (tgt := 38) C rt2 dX11_soonest_32 (by decide) (fun c3 => ?_) (fun c3 => ?_)
    · have h := h.1 c3
      refine gx_aload_n C hl dX11_soonest_38 rfl ?_
      refine gx_getI C G rfl (fX11_o hV) (fo10_6 (fX11_c hV)) uw_221 (fun _ h9 => h9) dX11_soonest_39 ?_
      have r4 := G.r o 6
      refine gx_aload_n C hl dX11_soonest_42 rfl ?_
      refine gx_getF C G rfl (fX11_o hV) (fo10_1 (fX11_c hV)) (fX11_past hV) uw_216 (fun _ h9 => h9) dX11_soonest_43 ?_
      refine gx_aload_n C hl dX11_soonest_46 rfl ?_
      refine gx_getF C G rfl (fX11_o hV) (fo10_0 (fX11_c hV)) (fX11_times hV) uw_215 (fun _ h9 => h9) dX11_soonest_47 ?_
      refine gx_iload_n C hl dX11_soonest_50 rfl ?_
      refine gx_iload_n C hl dX11_soonest_51 rfl ?_
      refine gx_callV C G hl hml (c_X5_leastTick l D cy ad (fX11_past_s hV) (vsome (fX11_times_l hV)) rx1 rx2 h) rfl (fX5_o (fX11_past_s hV)) (by rw [(fX5_c (fX11_past_s hV))]; rfl) (by rw [(fX5_c (fX11_past_s hV))]; decide) rfl uw_541 uw_538 uw_539 uw_540 uw_2 hd_X5_leastTick ⟨Nat.le_of_ble_eq_true rfl, Nat.le_of_ble_eq_true rfl⟩ ⟨Nat.zero_le _, Nat.zero_le _⟩ rfl rfl (hw_le ad [.inl (S1.1 o 6)] rfl (Nat.le_of_ble_eq_true rfl)) dX11_soonest_52 (kkI (fun t6 S5 H locs rt6 h G => ?_))
      refine gx_max C hl hml r4 rt6 uw_682 ⟨Nat.le_of_ble_eq_true rfl, Nat.le_of_ble_eq_true rfl⟩ ⟨Nat.zero_le _, Nat.zero_le _⟩ (hw_le ad [] rfl (Nat.le_of_ble_eq_true rfl)) dX11_soonest_55 ?_
      exact gx_iret C G hret (rg_mx r4 rt6) h dX11_soonest_58
    · have h := h.2 c3
      refine gx_bipush C dX11_soonest_35 (by decide) ?_
      exact gx_iret C G hret (show rng (-2) by decide) h dX11_soonest_37
  clear eA
  unfold PT_X11_soonest at h
  refine gx_iload_n C hl dX11_soonest_0 rfl ?_
  refine gx_iconst C dX11_soonest_1 ?_
  refine gx_iconst C dX11_soonest_2 ?_
  refine gx_callS C G hl hml (c_X11_isWithin l D cy ad rx1 (show rng 0 by decide) (show rng 4 by decide) h) uw_270 uw_268 uw_269 uw_1 hd_X11_isWithin ⟨Nat.le_of_ble_eq_true rfl, Nat.le_of_ble_eq_true rfl⟩ ⟨Nat.zero_le _, Nat.zero_le _⟩ rfl rfl (hw_le ad [] rfl (Nat.le_of_ble_eq_true rfl)) dX11_soonest_3 (kkI (fun t8 S7 H locs rt8 h G => ?_))
  refine gx_if_eq (tgt := 21) C rt8 dX11_soonest_6 (by decide) (fun c9 => ?_) (fun c9 => ?_)
  · have h := h.1 c9
    refine gx_iconst C dX11_soonest_21 ?_
    exact gx_iret C G hret (show rng (-1) by decide) h dX11_soonest_22
  · have h := h.2 c9
    refine gx_iload_n C hl dX11_soonest_9 rfl ?_
    refine gx_iconst C dX11_soonest_10 ?_
    refine gx_icmp_eq (tgt := 23) C rx1 (show rng 4 by decide) dX11_soonest_11 (by decide) (fun c10 => ?_) (fun c10 => ?_)
    · have h := h.1 c10
      exact b23 S7 H locs ls hl G h
    · have h := h.2 c10
      refine gx_iload_n C hl dX11_soonest_14 rfl ?_
      refine gx_callS C G hl hml (c_X11_isBank l D cy ad rx2 h) uw_681 uw_679 uw_680 uw_1 hd_X11_isBank ⟨Nat.le_of_ble_eq_true rfl, Nat.le_of_ble_eq_true rfl⟩ ⟨Nat.zero_le _, Nat.zero_le _⟩ rfl rfl (hw_le ad [] rfl (Nat.le_of_ble_eq_true rfl)) dX11_soonest_15 (kkI (fun t12 S11 H locs rt12 h G => ?_))
      refine gx_if_ne (tgt := 23) C rt12 dX11_soonest_18 (by decide) (fun c13 => ?_) (fun c13 => ?_)
      · have h := h.1 c13
        exact b23 S11 H locs ls hl G h
      · have h := h.2 c13
        refine gx_iconst C dX11_soonest_21 ?_
        exact gx_iret C G hret (show rng (-1) by decide) h dX11_soonest_22
def PT_X11_row (V : Vt) (o : Nat) (x1 : Int) (S : Me) (Q : Int → Me → Prop) : Prop := PT_X11_isBank V x1 S (fun t2 S1 => ((t2 = 0 → Q (-1) S1) ∧ (¬ t2 = 0 → (0 ≤ x1 ∧ x1 < 4) ∧ Q (S1.1 ((o + 25) + 2) (Int.toNat x1)) S1)))
theorem hd_X11_row : yX11_row.cls ≠ "java/lang/invoke/MethodHandle" ∧ yX11_row.cls ≠ "java/lang/invoke/VarHandle" ∧ (parseMethodDescriptor yX11_row.desc).map (fun d => d.parameters.length) = some 1 := by decide +kernel
set_option maxHeartbeats 4000000 in
set_option maxRecDepth 100000 in
theorem c_X11_row (l : Launch) (D : va_G) (cy : ClassId × ClassId × ClassId × ClassId) (ad : Nat → Nat) {V : Vt} {S : Me} {o : Nat} {x1 : Int} (hV : fX11 V o) (rx1 : rng x1) {Q : Int → Me → Prop} (h : PT_X11_row V o x1 S Q) : KM l D cy yX11_row cX11_row 2 (Option.some Jvm.ClassFile.FieldType.int) 2 42 ad V S [.inr (some o), .inl x1] (qI Q) := by
  refine KM.of (by decide) rfl (Nat.le_of_ble_eq_true rfl) (own := RX11) (fun p e s m args below meth c A ls H locs eA C hret hml hmn hl G => ?_)
  have hl : lo ad ls [some (.inr (some o)), some (.inl x1)] := hl
  clear eA
  unfold PT_X11_row at h
  refine gx_iload_n C hl dX11_row_0 rfl ?_
  refine gx_callS C G hl hml (c_X11_isBank l D cy ad rx1 h) uw_681 uw_679 uw_680 uw_1 hd_X11_isBank ⟨Nat.le_of_ble_eq_true rfl, Nat.le_of_ble_eq_true rfl⟩ ⟨Nat.zero_le _, Nat.zero_le _⟩ rfl rfl (hw_le ad [] rfl (Nat.le_of_ble_eq_true rfl)) dX11_row_1 (kkI (fun t2 S1 H locs rt2 h G => ?_))
  refine gx_if_eq (tgt := 19) C rt2 dX11_row_4 (by decide) (fun c3 => ?_) (fun c3 => ?_)
  · have h := h.1 c3
    refine gx_iconst C dX11_row_19 ?_
    exact gx_iret C G hret (show rng (-1) by decide) h dX11_row_20
  · have h := h.2 c3
    refine gx_aload_n C hl dX11_row_7 rfl ?_
    refine gx_getF C G rfl (fX11_o hV) (fo10_3 (fX11_c hV)) (fX11_memory hV) uw_218 (fun _ h9 => h9) dX11_row_8 ?_
    refine gx_getF C G rfl (fX4_o (fX11_memory_s hV)) (fo3_1 (fX4_c (fX11_memory_s hV))) (fX4_openRows (fX11_memory_s hV)) uw_137 (fun _ h9 => h9) dX11_row_11 ?_
    refine gx_iload_n C hl dX11_row_14 rfl ?_
    obtain ⟨h4, h⟩ := h
    refine gx_iald C G rfl (fX4_openRows_l (fX11_memory_s hV)) (fX4_openRows_t (fX11_memory_s hV)) rx1 h4.1 (ixl (fX4_openRows_n (fX11_memory_s hV)) h4.2) dX11_row_15 ?_
    have r5 := G.r ((o + 25) + 2) (Int.toNat x1)
    refine gx_goto (tgt := 20) C dX11_row_16 (by decide) ?_
    exact gx_iret C G hret r5 h dX11_row_20
def PT_X11_octet (V : Vt) (o : Nat) (x1 : Int) (S : Me) (Q : Int → Me → Prop) : Prop := PT_X11_isAddress V x1 S (fun t2 S1 => ((t2 = 0 → Q (-1) S1) ∧ (¬ t2 = 0 → (0 ≤ x1 ∧ x1 < 1024) ∧ Q (S1.1 ((o + 25) + 1) (Int.toNat x1)) S1)))
theorem hd_X11_octet : yX11_octet.cls ≠ "java/lang/invoke/MethodHandle" ∧ yX11_octet.cls ≠ "java/lang/invoke/VarHandle" ∧ (parseMethodDescriptor yX11_octet.desc).map (fun d => d.parameters.length) = some 1 := by decide +kernel
set_option maxHeartbeats 4000000 in
set_option maxRecDepth 100000 in
theorem c_X11_octet (l : Launch) (D : va_G) (cy : ClassId × ClassId × ClassId × ClassId) (ad : Nat → Nat) {V : Vt} {S : Me} {o : Nat} {x1 : Int} (hV : fX11 V o) (rx1 : rng x1) {Q : Int → Me → Prop} (h : PT_X11_octet V o x1 S Q) : KM l D cy yX11_octet cX11_octet 2 (Option.some Jvm.ClassFile.FieldType.int) 2 42 ad V S [.inr (some o), .inl x1] (qI Q) := by
  refine KM.of (by decide) rfl (Nat.le_of_ble_eq_true rfl) (own := RX11) (fun p e s m args below meth c A ls H locs eA C hret hml hmn hl G => ?_)
  have hl : lo ad ls [some (.inr (some o)), some (.inl x1)] := hl
  clear eA
  unfold PT_X11_octet at h
  refine gx_iload_n C hl dX11_octet_0 rfl ?_
  refine gx_callS C G hl hml (c_X11_isAddress l D cy ad rx1 h) uw_288 uw_286 uw_287 uw_1 hd_X11_isAddress ⟨Nat.le_of_ble_eq_true rfl, Nat.le_of_ble_eq_true rfl⟩ ⟨Nat.zero_le _, Nat.zero_le _⟩ rfl rfl (hw_le ad [] rfl (Nat.le_of_ble_eq_true rfl)) dX11_octet_1 (kkI (fun t2 S1 H locs rt2 h G => ?_))
  refine gx_if_eq (tgt := 19) C rt2 dX11_octet_4 (by decide) (fun c3 => ?_) (fun c3 => ?_)
  · have h := h.1 c3
    refine gx_iconst C dX11_octet_19 ?_
    exact gx_iret C G hret (show rng (-1) by decide) h dX11_octet_20
  · have h := h.2 c3
    refine gx_aload_n C hl dX11_octet_7 rfl ?_
    refine gx_getF C G rfl (fX11_o hV) (fo10_3 (fX11_c hV)) (fX11_memory hV) uw_218 (fun _ h9 => h9) dX11_octet_8 ?_
    refine gx_getF C G rfl (fX4_o (fX11_memory_s hV)) (fo3_0 (fX4_c (fX11_memory_s hV))) (fX4_octets (fX11_memory_s hV)) uw_134 (fun _ h9 => h9) dX11_octet_11 ?_
    refine gx_iload_n C hl dX11_octet_14 rfl ?_
    obtain ⟨h4, h⟩ := h
    refine gx_iald C G rfl (fX4_octets_l (fX11_memory_s hV)) (fX4_octets_t (fX11_memory_s hV)) rx1 h4.1 (ixl (fX4_octets_n (fX11_memory_s hV)) h4.2) dX11_octet_15 ?_
    have r5 := G.r ((o + 25) + 1) (Int.toNat x1)
    refine gx_goto (tgt := 20) C dX11_octet_16 (by decide) ?_
    exact gx_iret C G hret r5 h dX11_octet_20
def PT_X11_log (V : Vt) (o : Nat) (x1 : Int) (x2 : Int) (S : Me) (Q : Int → Me → Prop) : Prop := PT_X1_has V (o + 10) x1 S (fun t2 S1 => ((¬ t2 = 0 → ((x2 = 0 → (0 ≤ x1 ∧ x1 < 400) ∧ Q (S1.1 ((o + 10) + 1) (Int.toNat x1)) S1) ∧ (x2 = 1 → (0 ≤ x1 ∧ x1 < 400) ∧ Q (S1.1 ((o + 10) + 3) (Int.toNat x1)) S1) ∧ (x2 = 2 → (0 ≤ x1 ∧ x1 < 400) ∧ Q (S1.1 ((o + 10) + 4) (Int.toNat x1)) S1) ∧ (x2 = 3 → (0 ≤ x1 ∧ x1 < 400) ∧ Q (S1.1 ((o + 10) + 5) (Int.toNat x1)) S1) ∧ (x2 = 4 → (0 ≤ x1 ∧ x1 < 400) ∧ Q (S1.1 ((o + 10) + 6) (Int.toNat x1)) S1) ∧ ((x2 < 0 ∨ 4 < x2) → Q (-1) S1))) ∧ (t2 = 0 → Q (-1) S1)))
theorem hd_X11_log : yX11_log.cls ≠ "java/lang/invoke/MethodHandle" ∧ yX11_log.cls ≠ "java/lang/invoke/VarHandle" ∧ (parseMethodDescriptor yX11_log.desc).map (fun d => d.parameters.length) = some 2 := by decide +kernel
set_option maxHeartbeats 4000000 in
set_option maxRecDepth 100000 in
theorem c_X11_log (l : Launch) (D : va_G) (cy : ClassId × ClassId × ClassId × ClassId) (ad : Nat → Nat) {V : Vt} {S : Me} {o : Nat} {x1 : Int} {x2 : Int} (hV : fX11 V o) (rx1 : rng x1) (rx2 : rng x2) {Q : Int → Me → Prop} (h : PT_X11_log V o x1 x2 S Q) : KM l D cy yX11_log cX11_log 3 (Option.some Jvm.ClassFile.FieldType.int) 1 21 ad V S [.inr (some o), .inl x1, .inl x2] (qI Q) := by
  refine KM.of (by decide) rfl (Nat.le_of_ble_eq_true rfl) (own := RX11) (fun p e s m args below meth c A ls H locs eA C hret hml hmn hl G => ?_)
  have hl : lo ad ls [some (.inr (some o)), some (.inl x1), some (.inl x2)] := hl
  clear eA
  unfold PT_X11_log at h
  refine gx_aload_n C hl dX11_log_0 rfl ?_
  refine gx_getF C G rfl (fX11_o hV) (fo10_2 (fX11_c hV)) (fX11_commandLog hV) uw_217 (fun _ h9 => h9) dX11_log_1 ?_
  refine gx_iload_n C hl dX11_log_4 rfl ?_
  refine gx_callV C G hl hml (c_X1_has l D cy ad (fX11_commandLog_s hV) rx1 h) rfl (fX1_o (fX11_commandLog_s hV)) (by rw [(fX1_c (fX11_commandLog_s hV))]; rfl) (by rw [(fX1_c (fX11_commandLog_s hV))]; decide) rfl uw_698 uw_695 uw_696 uw_697 uw_4 hd_X1_has ⟨Nat.le_of_ble_eq_true rfl, Nat.le_of_ble_eq_true rfl⟩ ⟨Nat.zero_le _, Nat.zero_le _⟩ rfl rfl (hw_le ad [] rfl (Nat.le_of_ble_eq_true rfl)) dX11_log_5 (kkI (fun t2 S1 H locs rt2 h G => ?_))
  refine gx_if_ne (tgt := 13) C rt2 dX11_log_8 (by decide) (fun c3 => ?_) (fun c3 => ?_)
  · have h := h.1 c3
    refine gx_iload_n C hl dX11_log_13 rfl ?_
    by_cases c6 : x2 = 0
    · refine gx_tableIn (tgt := 48) C rx2 dX11_log_14 0 c6 (by decide) (by decide) rfl (by decide) ?_
      have h := h.1 c6
      refine gx_aload_n C hl dX11_log_48 rfl ?_
      refine gx_getF C G rfl (fX11_o hV) (fo10_2 (fX11_c hV)) (fX11_commandLog hV) uw_217 (fun _ h9 => h9) dX11_log_49 ?_
      refine gx_getF C G rfl (fX1_o (fX11_commandLog_s hV)) (fo0_0 (fX1_c (fX11_commandLog_s hV))) (fX1_ticks (fX11_commandLog_s hV)) uw_92 (fun _ h9 => h9) dX11_log_52 ?_
      refine gx_iload_n C hl dX11_log_55 rfl ?_
      obtain ⟨h4, h⟩ := h
      refine gx_iald C G rfl (fX1_ticks_l (fX11_commandLog_s hV)) (fX1_ticks_t (fX11_commandLog_s hV)) rx1 h4.1 (ixl (fX1_ticks_n (fX11_commandLog_s hV)) h4.2) dX11_log_56 ?_
      have r5 := G.r ((o + 10) + 1) (Int.toNat x1)
      exact gx_iret C G hret r5 h dX11_log_57
    · by_cases c9 : x2 = 1
      · refine gx_tableIn (tgt := 58) C rx2 dX11_log_14 1 c9 (by decide) (by decide) rfl (by decide) ?_
        have h := h.2.1 c9
        refine gx_aload_n C hl dX11_log_58 rfl ?_
        refine gx_getF C G rfl (fX11_o hV) (fo10_2 (fX11_c hV)) (fX11_commandLog hV) uw_217 (fun _ h9 => h9) dX11_log_59 ?_
        refine gx_getF C G rfl (fX1_o (fX11_commandLog_s hV)) (fo0_2 (fX1_c (fX11_commandLog_s hV))) (fX1_which (fX11_commandLog_s hV)) uw_96 (fun _ h9 => h9) dX11_log_62 ?_
        refine gx_iload_n C hl dX11_log_65 rfl ?_
        obtain ⟨h7, h⟩ := h
        refine gx_iald C G rfl (fX1_which_l (fX11_commandLog_s hV)) (fX1_which_t (fX11_commandLog_s hV)) rx1 h7.1 (ixl (fX1_which_n (fX11_commandLog_s hV)) h7.2) dX11_log_66 ?_
        have r8 := G.r ((o + 10) + 3) (Int.toNat x1)
        exact gx_iret C G hret r8 h dX11_log_67
      · by_cases c12 : x2 = 2
        · refine gx_tableIn (tgt := 68) C rx2 dX11_log_14 2 c12 (by decide) (by decide) rfl (by decide) ?_
          have h := h.2.2.1 c12
          refine gx_aload_n C hl dX11_log_68 rfl ?_
          refine gx_getF C G rfl (fX11_o hV) (fo10_2 (fX11_c hV)) (fX11_commandLog hV) uw_217 (fun _ h9 => h9) dX11_log_69 ?_
          refine gx_getF C G rfl (fX1_o (fX11_commandLog_s hV)) (fo0_3 (fX1_c (fX11_commandLog_s hV))) (fX1_banks (fX11_commandLog_s hV)) uw_98 (fun _ h9 => h9) dX11_log_72 ?_
          refine gx_iload_n C hl dX11_log_75 rfl ?_
          obtain ⟨h10, h⟩ := h
          refine gx_iald C G rfl (fX1_banks_l (fX11_commandLog_s hV)) (fX1_banks_t (fX11_commandLog_s hV)) rx1 h10.1 (ixl (fX1_banks_n (fX11_commandLog_s hV)) h10.2) dX11_log_76 ?_
          have r11 := G.r ((o + 10) + 4) (Int.toNat x1)
          exact gx_iret C G hret r11 h dX11_log_77
        · by_cases c15 : x2 = 3
          · refine gx_tableIn (tgt := 78) C rx2 dX11_log_14 3 c15 (by decide) (by decide) rfl (by decide) ?_
            have h := h.2.2.2.1 c15
            refine gx_aload_n C hl dX11_log_78 rfl ?_
            refine gx_getF C G rfl (fX11_o hV) (fo10_2 (fX11_c hV)) (fX11_commandLog hV) uw_217 (fun _ h9 => h9) dX11_log_79 ?_
            refine gx_getF C G rfl (fX1_o (fX11_commandLog_s hV)) (fo0_4 (fX1_c (fX11_commandLog_s hV))) (fX1_wheres (fX11_commandLog_s hV)) uw_100 (fun _ h9 => h9) dX11_log_82 ?_
            refine gx_iload_n C hl dX11_log_85 rfl ?_
            obtain ⟨h13, h⟩ := h
            refine gx_iald C G rfl (fX1_wheres_l (fX11_commandLog_s hV)) (fX1_wheres_t (fX11_commandLog_s hV)) rx1 h13.1 (ixl (fX1_wheres_n (fX11_commandLog_s hV)) h13.2) dX11_log_86 ?_
            have r14 := G.r ((o + 10) + 5) (Int.toNat x1)
            exact gx_iret C G hret r14 h dX11_log_87
          · by_cases c18 : x2 = 4
            · refine gx_tableIn (tgt := 88) C rx2 dX11_log_14 4 c18 (by decide) (by decide) rfl (by decide) ?_
              have h := h.2.2.2.2.1 c18
              refine gx_aload_n C hl dX11_log_88 rfl ?_
              refine gx_getF C G rfl (fX11_o hV) (fo10_2 (fX11_c hV)) (fX11_commandLog hV) uw_217 (fun _ h9 => h9) dX11_log_89 ?_
              refine gx_getF C G rfl (fX1_o (fX11_commandLog_s hV)) (fo0_5 (fX1_c (fX11_commandLog_s hV))) (fX1_asks (fX11_commandLog_s hV)) uw_102 (fun _ h9 => h9) dX11_log_92 ?_
              refine gx_iload_n C hl dX11_log_95 rfl ?_
              obtain ⟨h16, h⟩ := h
              refine gx_iald C G rfl (fX1_asks_l (fX11_commandLog_s hV)) (fX1_asks_t (fX11_commandLog_s hV)) rx1 h16.1 (ixl (fX1_asks_n (fX11_commandLog_s hV)) h16.2) dX11_log_96 ?_
              have r17 := G.r ((o + 10) + 6) (Int.toNat x1)
              exact gx_iret C G hret r17 h dX11_log_97
            · have c19 : x2 < 0 ∨ 4 < x2 := by omega
              refine gx_tableOut (tgt := 98) C rx2 dX11_log_14 c19 (by decide) ?_
              have h := h.2.2.2.2.2 c19
              refine gx_iconst C dX11_log_98 ?_
              exact gx_iret C G hret (show rng (-1) by decide) h dX11_log_99
  · have h := h.2 c3
    refine gx_iconst C dX11_log_11 ?_
    exact gx_iret C G hret (show rng (-1) by decide) h dX11_log_12
def PT_X11_broken (V : Vt) (o : Nat) (S : Me) (Q : Int → Me → Prop) : Prop := Q (S.1 (o + 10) 8) S
theorem hd_X11_broken : yX11_broken.cls ≠ "java/lang/invoke/MethodHandle" ∧ yX11_broken.cls ≠ "java/lang/invoke/VarHandle" ∧ (parseMethodDescriptor yX11_broken.desc).map (fun d => d.parameters.length) = some 0 := by decide +kernel
set_option maxHeartbeats 4000000 in
set_option maxRecDepth 100000 in
theorem c_X11_broken (l : Launch) (D : va_G) (cy : ClassId × ClassId × ClassId × ClassId) (ad : Nat → Nat) {V : Vt} {S : Me} {o : Nat} (hV : fX11 V o) {Q : Int → Me → Prop} (h : PT_X11_broken V o S Q) : KM l D cy yX11_broken cX11_broken 1 (Option.some Jvm.ClassFile.FieldType.int) 0 0 ad V S [.inr (some o)] (qI Q) := by
  refine KM.of (by decide) rfl (Nat.le_of_ble_eq_true rfl) (own := RX11) (fun p e s m args below meth c A ls H locs eA C hret hml hmn hl G => ?_)
  have hl : lo ad ls [some (.inr (some o))] := hl
  clear eA
  unfold PT_X11_broken at h
  refine gx_aload_n C hl dX11_broken_0 rfl ?_
  refine gx_getF C G rfl (fX11_o hV) (fo10_2 (fX11_c hV)) (fX11_commandLog hV) uw_217 (fun _ h9 => h9) dX11_broken_1 ?_
  refine gx_getI C G rfl (fX1_o (fX11_commandLog_s hV)) (fo0_8 (fX1_c (fX11_commandLog_s hV))) uw_107 (fun _ h9 => h9) dX11_broken_4 ?_
  have r1 := G.r (o + 10) 8
  exact gx_iret C G hret r1 h dX11_broken_7
def PT_X11_worst (V : Vt) (o : Nat) (x1 : Int) (S : Me) (Q : Int → Me → Prop) : Prop := PT_X11_isAsker V x1 S (fun t2 S1 => ((t2 = 0 → Q (-1) S1) ∧ (¬ t2 = 0 → (0 ≤ x1 ∧ x1 < 4) ∧ Q (S1.1 ((o + 28) + 4) (Int.toNat x1)) S1)))
theorem hd_X11_worst : yX11_worst.cls ≠ "java/lang/invoke/MethodHandle" ∧ yX11_worst.cls ≠ "java/lang/invoke/VarHandle" ∧ (parseMethodDescriptor yX11_worst.desc).map (fun d => d.parameters.length) = some 1 := by decide +kernel
set_option maxHeartbeats 4000000 in
set_option maxRecDepth 100000 in
theorem c_X11_worst (l : Launch) (D : va_G) (cy : ClassId × ClassId × ClassId × ClassId) (ad : Nat → Nat) {V : Vt} {S : Me} {o : Nat} {x1 : Int} (hV : fX11 V o) (rx1 : rng x1) {Q : Int → Me → Prop} (h : PT_X11_worst V o x1 S Q) : KM l D cy yX11_worst cX11_worst 2 (Option.some Jvm.ClassFile.FieldType.int) 2 42 ad V S [.inr (some o), .inl x1] (qI Q) := by
  refine KM.of (by decide) rfl (Nat.le_of_ble_eq_true rfl) (own := RX11) (fun p e s m args below meth c A ls H locs eA C hret hml hmn hl G => ?_)
  have hl : lo ad ls [some (.inr (some o)), some (.inl x1)] := hl
  clear eA
  unfold PT_X11_worst at h
  refine gx_iload_n C hl dX11_worst_0 rfl ?_
  refine gx_callS C G hl hml (c_X11_isAsker l D cy ad rx1 h) uw_285 uw_283 uw_284 uw_1 hd_X11_isAsker ⟨Nat.le_of_ble_eq_true rfl, Nat.le_of_ble_eq_true rfl⟩ ⟨Nat.zero_le _, Nat.zero_le _⟩ rfl rfl (hw_le ad [] rfl (Nat.le_of_ble_eq_true rfl)) dX11_worst_1 (kkI (fun t2 S1 H locs rt2 h G => ?_))
  refine gx_if_eq (tgt := 19) C rt2 dX11_worst_4 (by decide) (fun c3 => ?_) (fun c3 => ?_)
  · have h := h.1 c3
    refine gx_iconst C dX11_worst_19 ?_
    exact gx_iret C G hret (show rng (-1) by decide) h dX11_worst_20
  · have h := h.2 c3
    refine gx_aload_n C hl dX11_worst_7 rfl ?_
    refine gx_getF C G rfl (fX11_o hV) (fo10_4 (fX11_c hV)) (fX11_queue hV) uw_219 (fun _ h9 => h9) dX11_worst_8 ?_
    refine gx_getF C G rfl (fX7_o (fX11_queue_s hV)) (fo6_3 (fX7_c (fX11_queue_s hV))) (fX7_worstWaits (fX11_queue_s hV)) uw_156 (fun _ h9 => h9) dX11_worst_11 ?_
    refine gx_iload_n C hl dX11_worst_14 rfl ?_
    obtain ⟨h4, h⟩ := h
    refine gx_iald C G rfl (fX7_worstWaits_l (fX11_queue_s hV)) (fX7_worstWaits_t (fX11_queue_s hV)) rx1 h4.1 (ixl (fX7_worstWaits_n (fX11_queue_s hV)) h4.2) dX11_worst_15 ?_
    have r5 := G.r ((o + 28) + 4) (Int.toNat x1)
    refine gx_goto (tgt := 20) C dX11_worst_16 (by decide) ?_
    exact gx_iret C G hret r5 h dX11_worst_20
def PT_X11_beside (V : Vt) (o : Nat) (S : Me) (Q : Int → Me → Prop) : Prop := PT_X7_isAsIfInTurn V (o + 28) (some ((o + 25) + 1)) S (fun t2 S1 => ((t2 = 0 → Q 0 S1) ∧ (¬ t2 = 0 → Q 1 S1)))
theorem hd_X11_beside : yX11_beside.cls ≠ "java/lang/invoke/MethodHandle" ∧ yX11_beside.cls ≠ "java/lang/invoke/VarHandle" ∧ (parseMethodDescriptor yX11_beside.desc).map (fun d => d.parameters.length) = some 0 := by decide +kernel
set_option maxHeartbeats 4000000 in
set_option maxRecDepth 100000 in
theorem c_X11_beside (l : Launch) (D : va_G) (cy : ClassId × ClassId × ClassId × ClassId) (ad : Nat → Nat) {V : Vt} {S : Me} {o : Nat} (hV : fX11 V o) {Q : Int → Me → Prop} (h : PT_X11_beside V o S Q) : KM l D cy yX11_beside cX11_beside 1 (Option.some Jvm.ClassFile.FieldType.int) 3 64 ad V S [.inr (some o)] (qI Q) := by
  refine KM.of (by decide) rfl (Nat.le_of_ble_eq_true rfl) (own := RX11) (fun p e s m args below meth c A ls H locs eA C hret hml hmn hl G => ?_)
  have hl : lo ad ls [some (.inr (some o))] := hl
  clear eA
  unfold PT_X11_beside at h
  refine gx_aload_n C hl dX11_beside_0 rfl ?_
  refine gx_getF C G rfl (fX11_o hV) (fo10_4 (fX11_c hV)) (fX11_queue hV) uw_219 (fun _ h9 => h9) dX11_beside_1 ?_
  refine gx_aload_n C hl dX11_beside_4 rfl ?_
  refine gx_getF C G rfl (fX11_o hV) (fo10_3 (fX11_c hV)) (fX11_memory hV) uw_218 (fun _ h9 => h9) dX11_beside_5 ?_
  refine gx_getF C G rfl (fX4_o (fX11_memory_s hV)) (fo3_0 (fX4_c (fX11_memory_s hV))) (fX4_octets (fX11_memory_s hV)) uw_134 (fun _ h9 => h9) dX11_beside_8 ?_
  refine gx_callV C G hl hml (c_X7_isAsIfInTurn l D cy ad (fX11_queue_s hV) (vsome (fX4_octets_l (fX11_memory_s hV))) h) rfl (fX7_o (fX11_queue_s hV)) (by rw [(fX7_c (fX11_queue_s hV))]; rfl) (by rw [(fX7_c (fX11_queue_s hV))]; decide) rfl uw_733 uw_730 uw_731 uw_732 uw_6 hd_X7_isAsIfInTurn ⟨Nat.le_of_ble_eq_true rfl, Nat.le_of_ble_eq_true rfl⟩ ⟨Nat.zero_le _, Nat.zero_le _⟩ rfl rfl (hw_le ad [] rfl (Nat.le_of_ble_eq_true rfl)) dX11_beside_11 (kkI (fun t2 S1 H locs rt2 h G => ?_))
  refine gx_if_eq (tgt := 21) C rt2 dX11_beside_14 (by decide) (fun c3 => ?_) (fun c3 => ?_)
  · have h := h.1 c3
    refine gx_iconst C dX11_beside_21 ?_
    exact gx_iret C G hret (show rng 0 by decide) h dX11_beside_22
  · have h := h.2 c3
    refine gx_iconst C dX11_beside_17 ?_
    refine gx_goto (tgt := 22) C dX11_beside_18 (by decide) ?_
    exact gx_iret C G hret (show rng 1 by decide) h dX11_beside_22
def B_X11_count_116 (V : Vt) (o : Nat) (x1 : Int) (S : Me) (Q : Int → Me → Prop) : Prop := (rng (x1 - 8)) ∧ (0 ≤ (x1 - 8) ∧ (x1 - 8) < 4) ∧ Q (S.1 ((o + 28) + 3) (Int.toNat (x1 - 8))) S
def PT_X11_count (V : Vt) (o : Nat) (x1 : Int) (S : Me) (Q : Int → Me → Prop) : Prop := ((x1 = 0 → Q (S.1 o 6) S) ∧ (x1 = 1 → Q (S.1 (o + 28) 6) S) ∧ (x1 = 2 → Q (S.1 (o + 28) 7) S) ∧ (x1 = 3 → Q (S.1 o 9) S) ∧ (x1 = 4 → Q (S.1 o 13) S) ∧ (x1 = 5 → Q (S.1 o 12) S) ∧ (x1 = 6 → Q (S.1 (o + 10) 7) S) ∧ (x1 = 7 → Q (S.1 (o + 2) 7) S) ∧ (x1 = 8 → B_X11_count_116 V o x1 S Q) ∧ (x1 = 9 → B_X11_count_116 V o x1 S Q) ∧ (x1 = 10 → B_X11_count_116 V o x1 S Q) ∧ (x1 = 11 → B_X11_count_116 V o x1 S Q) ∧ ((x1 < 0 ∨ 11 < x1) → Q (-1) S))
theorem hd_X11_count : yX11_count.cls ≠ "java/lang/invoke/MethodHandle" ∧ yX11_count.cls ≠ "java/lang/invoke/VarHandle" ∧ (parseMethodDescriptor yX11_count.desc).map (fun d => d.parameters.length) = some 1 := by decide +kernel
set_option maxHeartbeats 4000000 in
set_option maxRecDepth 100000 in
theorem c_X11_count (l : Launch) (D : va_G) (cy : ClassId × ClassId × ClassId × ClassId) (ad : Nat → Nat) {V : Vt} {S : Me} {o : Nat} {x1 : Int} (hV : fX11 V o) (rx1 : rng x1) {Q : Int → Me → Prop} (h : PT_X11_count V o x1 S Q) : KM l D cy yX11_count cX11_count 2 (Option.some Jvm.ClassFile.FieldType.int) 0 0 ad V S [.inr (some o), .inl x1] (qI Q) := by
  refine KM.of (by decide) rfl (Nat.le_of_ble_eq_true rfl) (own := RX11) (fun p e s m args below meth c A ls H locs eA C hret hml hmn hl G => ?_)
  have hl : lo ad ls [some (.inr (some o)), some (.inl x1)] := hl
  have b116 : ∀ (S : Me) (H : Heap) (locs : List Loc) (ls : Array Slot), lo ad ls [some (.inr (some o)), some (.inl x1)] → Gy D cy A s.heap ad V S H locs → B_X11_count_116 V o x1 S Q → W p l e (rmx 0 0) s m args below meth c H locs 0 0 (qm below D cy ad V A args s (qI Q)) (F0 m 116 ls []) := by
    intro S H locs ls hl G h
    unfold B_X11_count_116 at h
    refine gx_aload_n C hl dX11_count_116 rfl ?_
    refine gx_getF C G rfl (fX11_o hV) (fo10_4 (fX11_c hV)) (fX11_queue hV) uw_219 (fun _ h9 => h9) dX11_count_117 ?_
    refine gx_getF C G rfl (fX7_o (fX11_queue_s hV)) (fo6_2 (fX7_c (fX11_queue_s hV))) (fX7_doneOf (fX11_queue_s hV)) uw_154 (fun _ h9 => h9) dX11_count_120 ?_
    refine gx_iload_n C hl dX11_count_123 rfl ?_
    refine gx_bipush C dX11_count_124 (by decide) ?_
    obtain ⟨h1, h⟩ := h
    refine gx_isub C dX11_count_126 ?_
    obtain ⟨h2, h⟩ := h
    refine gx_iald C G rfl (fX7_doneOf_l (fX11_queue_s hV)) (fX7_doneOf_t (fX11_queue_s hV)) h1 h2.1 (ixl (fX7_doneOf_n (fX11_queue_s hV)) h2.2) dX11_count_127 ?_
    have r3 := G.r ((o + 28) + 3) (Int.toNat (x1 - 8))
    exact gx_iret C G hret r3 h dX11_count_128
  clear eA
  unfold PT_X11_count at h
  refine gx_iload_n C hl dX11_count_0 rfl ?_
  by_cases c5 : x1 = 0
  · refine gx_tableIn (tgt := 64) C rx1 dX11_count_1 0 c5 (by decide) (by decide) rfl (by decide) ?_
    have h := h.1 c5
    refine gx_aload_n C hl dX11_count_64 rfl ?_
    refine gx_getI C G rfl (fX11_o hV) (fo10_6 (fX11_c hV)) uw_221 (fun _ h9 => h9) dX11_count_65 ?_
    have r4 := G.r o 6
    exact gx_iret C G hret r4 h dX11_count_68
  · by_cases c7 : x1 = 1
    · refine gx_tableIn (tgt := 69) C rx1 dX11_count_1 1 c7 (by decide) (by decide) rfl (by decide) ?_
      have h := h.2.1 c7
      refine gx_aload_n C hl dX11_count_69 rfl ?_
      refine gx_getF C G rfl (fX11_o hV) (fo10_4 (fX11_c hV)) (fX11_queue hV) uw_219 (fun _ h9 => h9) dX11_count_70 ?_
      refine gx_getI C G rfl (fX7_o (fX11_queue_s hV)) (fo6_6 (fX7_c (fX11_queue_s hV))) uw_160 (fun _ h9 => h9) dX11_count_73 ?_
      have r6 := G.r (o + 28) 6
      exact gx_iret C G hret r6 h dX11_count_76
    · by_cases c9 : x1 = 2
      · refine gx_tableIn (tgt := 77) C rx1 dX11_count_1 2 c9 (by decide) (by decide) rfl (by decide) ?_
        have h := h.2.2.1 c9
        refine gx_aload_n C hl dX11_count_77 rfl ?_
        refine gx_getF C G rfl (fX11_o hV) (fo10_4 (fX11_c hV)) (fX11_queue hV) uw_219 (fun _ h9 => h9) dX11_count_78 ?_
        refine gx_getI C G rfl (fX7_o (fX11_queue_s hV)) (fo6_7 (fX7_c (fX11_queue_s hV))) uw_162 (fun _ h9 => h9) dX11_count_81 ?_
        have r8 := G.r (o + 28) 7
        exact gx_iret C G hret r8 h dX11_count_84
      · by_cases c11 : x1 = 3
        · refine gx_tableIn (tgt := 85) C rx1 dX11_count_1 3 c11 (by decide) (by decide) rfl (by decide) ?_
          have h := h.2.2.2.1 c11
          refine gx_aload_n C hl dX11_count_85 rfl ?_
          refine gx_getI C G rfl (fX11_o hV) (fo10_9 (fX11_c hV)) uw_224 (fun _ h9 => h9) dX11_count_86 ?_
          have r10 := G.r o 9
          exact gx_iret C G hret r10 h dX11_count_89
        · by_cases c13 : x1 = 4
          · refine gx_tableIn (tgt := 90) C rx1 dX11_count_1 4 c13 (by decide) (by decide) rfl (by decide) ?_
            have h := h.2.2.2.2.1 c13
            refine gx_aload_n C hl dX11_count_90 rfl ?_
            refine gx_getI C G rfl (fX11_o hV) (fo10_13 (fX11_c hV)) uw_228 (fun _ h9 => h9) dX11_count_91 ?_
            have r12 := G.r o 13
            exact gx_iret C G hret r12 h dX11_count_94
          · by_cases c15 : x1 = 5
            · refine gx_tableIn (tgt := 95) C rx1 dX11_count_1 5 c15 (by decide) (by decide) rfl (by decide) ?_
              have h := h.2.2.2.2.2.1 c15
              refine gx_aload_n C hl dX11_count_95 rfl ?_
              refine gx_getI C G rfl (fX11_o hV) (fo10_12 (fX11_c hV)) uw_227 (fun _ h9 => h9) dX11_count_96 ?_
              have r14 := G.r o 12
              exact gx_iret C G hret r14 h dX11_count_99
            · by_cases c17 : x1 = 6
              · refine gx_tableIn (tgt := 100) C rx1 dX11_count_1 6 c17 (by decide) (by decide) rfl (by decide) ?_
                have h := h.2.2.2.2.2.2.1 c17
                refine gx_aload_n C hl dX11_count_100 rfl ?_
                refine gx_getF C G rfl (fX11_o hV) (fo10_2 (fX11_c hV)) (fX11_commandLog hV) uw_217 (fun _ h9 => h9) dX11_count_101 ?_
                refine gx_getI C G rfl (fX1_o (fX11_commandLog_s hV)) (fo0_7 (fX1_c (fX11_commandLog_s hV))) uw_105 (fun _ h9 => h9) dX11_count_104 ?_
                have r16 := G.r (o + 10) 7
                exact gx_iret C G hret r16 h dX11_count_107
              · by_cases c19 : x1 = 7
                · refine gx_tableIn (tgt := 108) C rx1 dX11_count_1 7 c19 (by decide) (by decide) rfl (by decide) ?_
                  have h := h.2.2.2.2.2.2.2.1 c19
                  refine gx_aload_n C hl dX11_count_108 rfl ?_
                  refine gx_getF C G rfl (fX11_o hV) (fo10_1 (fX11_c hV)) (fX11_past hV) uw_216 (fun _ h9 => h9) dX11_count_109 ?_
                  refine gx_getI C G rfl (fX5_o (fX11_past_s hV)) (fo4_7 (fX5_c (fX11_past_s hV))) uw_52 (fun _ h9 => h9) dX11_count_112 ?_
                  have r18 := G.r (o + 2) 7
                  exact gx_iret C G hret r18 h dX11_count_115
                · by_cases c20 : x1 = 8
                  · refine gx_tableIn (tgt := 116) C rx1 dX11_count_1 8 c20 (by decide) (by decide) rfl (by decide) ?_
                    have h := h.2.2.2.2.2.2.2.2.1 c20
                    exact b116 S H locs ls hl G h
                  · by_cases c21 : x1 = 9
                    · refine gx_tableIn (tgt := 116) C rx1 dX11_count_1 9 c21 (by decide) (by decide) rfl (by decide) ?_
                      have h := h.2.2.2.2.2.2.2.2.2.1 c21
                      exact b116 S H locs ls hl G h
                    · by_cases c22 : x1 = 10
                      · refine gx_tableIn (tgt := 116) C rx1 dX11_count_1 10 c22 (by decide) (by decide) rfl (by decide) ?_
                        have h := h.2.2.2.2.2.2.2.2.2.2.1 c22
                        exact b116 S H locs ls hl G h
                      · by_cases c23 : x1 = 11
                        · refine gx_tableIn (tgt := 116) C rx1 dX11_count_1 11 c23 (by decide) (by decide) rfl (by decide) ?_
                          have h := h.2.2.2.2.2.2.2.2.2.2.2.1 c23
                          exact b116 S H locs ls hl G h
                        · have c24 : x1 < 0 ∨ 11 < x1 := by omega
                          refine gx_tableOut (tgt := 129) C rx1 dX11_count_1 c24 (by decide) ?_
                          have h := h.2.2.2.2.2.2.2.2.2.2.2.2 c24
                          refine gx_iconst C dX11_count_129 ?_
                          exact gx_iret C G hret (show rng (-1) by decide) h dX11_count_130
def PT_X11_keepAsk (V : Vt) (x1 : Option Nat) (x2 : Option Nat) (S : Me) (Q : Int → Me → Prop) : Prop := ((¬ x2 = none → ∃ z3 : Nat, x1 = some z3 ∧ V.2.1 z3 = 7 ∧ PT_X8_hold V z3 x2 none 0 S (fun S2 => Q 0 S2)) ∧ (x2 = none → Q (-1) S))
theorem hd_X11_keepAsk : yX11_keepAsk.cls ≠ "java/lang/invoke/MethodHandle" ∧ yX11_keepAsk.cls ≠ "java/lang/invoke/VarHandle" ∧ (parseMethodDescriptor yX11_keepAsk.desc).map (fun d => d.parameters.length) = some 2 := by decide +kernel
set_option maxHeartbeats 4000000 in
set_option maxRecDepth 100000 in
theorem c_X11_keepAsk (l : Launch) (D : va_G) (cy : ClassId × ClassId × ClassId × ClassId) (ad : Nat → Nat) {V : Vt} {S : Me} {x1 : Option Nat} {x2 : Option Nat} (vx1 : ∀ z, x1 = some z → z < V.1) (vx2 : ∀ z, x2 = some z → z < V.1) {Q : Int → Me → Prop} (h : PT_X11_keepAsk V x1 x2 S Q) : KM l D cy yX11_keepAsk cX11_keepAsk 2 (Option.some Jvm.ClassFile.FieldType.int) 1 23 ad V S [.inr x1, .inr x2] (qI Q) := by
  refine KM.of (by decide) rfl (Nat.le_of_ble_eq_true rfl) (own := RX11) (fun p e s m args below meth c A ls H locs eA C hret hml hmn hl G => ?_)
  have hl : lo ad ls [some (.inr x1), some (.inr x2)] := hl
  clear eA
  unfold PT_X11_keepAsk at h
  refine gx_aload_n C hl dX11_keepAsk_0 rfl ?_
  refine gx_ifnonnull (tgt := 6) C dX11_keepAsk_1 (by decide) (fun c1 => ?_) (fun c1 => ?_)
  · have h := h.1 c1
    refine gx_aload_n C hl dX11_keepAsk_6 rfl ?_
    refine gx_aload_n C hl dX11_keepAsk_7 rfl ?_
    refine gx_null (ad := ad) C dX11_keepAsk_8 ?_
    refine gx_iconst C dX11_keepAsk_9 ?_
    obtain ⟨z3, hz3, tz3, h⟩ := h
    have lz3 := (vx1 z3 hz3)
    refine gx_callV C G hl hml (c_X8_hold l D cy ad lz3 tz3 vx2 vnone (show rng 0 by decide) h) hz3 lz3 (by rw [tz3]; rfl) (by rw [tz3]; decide) rfl uw_752 uw_749 uw_750 uw_751 uw_8 hd_X8_hold ⟨Nat.le_of_ble_eq_true rfl, Nat.le_of_ble_eq_true rfl⟩ ⟨Nat.zero_le _, Nat.zero_le _⟩ rfl rfl (hw_le ad [] rfl (Nat.le_of_ble_eq_true rfl)) dX11_keepAsk_10 (kkV (fun S2 H locs h G => ?_))
    refine gx_iconst C dX11_keepAsk_13 ?_
    exact gx_iret C G hret (show rng 0 by decide) h dX11_keepAsk_14
  · have h := h.2 c1
    refine gx_iconst C dX11_keepAsk_4 ?_
    exact gx_iret C G hret (show rng (-1) by decide) h dX11_keepAsk_5
