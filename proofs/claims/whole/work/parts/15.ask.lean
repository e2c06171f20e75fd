def PT_X2_kind (V : Vt) (o : Nat) (S : Me) (Q : Int → Me → Prop) : Prop := Q 4 S
theorem hd_X2_kind : yX2_kind.cls ≠ "java/lang/invoke/MethodHandle" ∧ yX2_kind.cls ≠ "java/lang/invoke/VarHandle" ∧ (parseMethodDescriptor yX2_kind.desc).map (fun d => d.parameters.length) = some 0 := by decide +kernel
set_option maxHeartbeats 4000000 in
set_option maxRecDepth 100000 in
theorem c_X2_kind (l : Launch) (D : va_G) (cy : ClassId × ClassId × ClassId × ClassId) (ad : Nat → Nat) {V : Vt} {S : Me} {o : Nat} (ho : o < V.1) (ht : V.2.1 o = 1) {Q : Int → Me → Prop} (h : PT_X2_kind V o S Q) : KM l D cy yX2_kind cX2_kind 1 (Option.some Jvm.ClassFile.FieldType.int) 0 0 ad V S [.inr (some o)] (qI Q) := by
  refine KM.of (by decide) rfl (Nat.le_of_ble_eq_true rfl) (own := RX2) (fun p e s m args below meth c A ls H locs eA C hret hml hmn hl G => ?_)
  have hl : lo ad ls [some (.inr (some o))] := hl
  clear eA
  unfold PT_X2_kind at h
  refine gx_iconst C dX2_kind_0 ?_
  exact gx_iret C G hret (show rng 4 by decide) h dX2_kind_1
def PT_X3_kind (V : Vt) (o : Nat) (S : Me) (Q : Int → Me → Prop) : Prop := Q 2 S
theorem hd_X3_kind : yX3_kind.cls ≠ "java/lang/invoke/MethodHandle" ∧ yX3_kind.cls ≠ "java/lang/invoke/VarHandle" ∧ (parseMethodDescriptor yX3_kind.desc).map (fun d => d.parameters.length) = some 0 := by decide +kernel
set_option maxHeartbeats 4000000 in
set_option maxRecDepth 100000 in
theorem c_X3_kind (l : Launch) (D : va_G) (cy : ClassId × ClassId × ClassId × ClassId) (ad : Nat → Nat) {V : Vt} {S : Me} {o : Nat} (ho : o < V.1) (ht : V.2.1 o = 2) {Q : Int → Me → Prop} (h : PT_X3_kind V o S Q) : KM l D cy yX3_kind cX3_kind 1 (Option.some Jvm.ClassFile.FieldType.int) 0 0 ad V S [.inr (some o)] (qI Q) := by
  refine KM.of (by decide) rfl (Nat.le_of_ble_eq_true rfl) (own := RX3) (fun p e s m args below meth c A ls H locs eA C hret hml hmn hl G => ?_)
  have hl : lo ad ls [some (.inr (some o))] := hl
  clear eA
  unfold PT_X3_kind at h
  refine gx_iconst C dX3_kind_0 ?_
  exact gx_iret C G hret (show rng 2 by decide) h dX3_kind_1
def PT_X6_kind (V : Vt) (o : Nat) (S : Me) (Q : Int → Me → Prop) : Prop := Q 0 S
theorem hd_X6_kind : yX6_kind.cls ≠ "java/lang/invoke/MethodHandle" ∧ yX6_kind.cls ≠ "java/lang/invoke/VarHandle" ∧ (parseMethodDescriptor yX6_kind.desc).map (fun d => d.parameters.length) = some 0 := by decide +kernel
set_option maxHeartbeats 4000000 in
set_option maxRecDepth 100000 in
theorem c_X6_kind (l : Launch) (D : va_G) (cy : ClassId × ClassId × ClassId × ClassId) (ad : Nat → Nat) {V : Vt} {S : Me} {o : Nat} (ho : o < V.1) (ht : V.2.1 o = 5) {Q : Int → Me → Prop} (h : PT_X6_kind V o S Q) : KM l D cy yX6_kind cX6_kind 1 (Option.some Jvm.ClassFile.FieldType.int) 0 0 ad V S [.inr (some o)] (qI Q) := by
  refine KM.of (by decide) rfl (Nat.le_of_ble_eq_true rfl) (own := RX6) (fun p e s m args below meth c A ls H locs eA C hret hml hmn hl G => ?_)
  have hl : lo ad ls [some (.inr (some o))] := hl
  clear eA
  unfold PT_X6_kind at h
  refine gx_iconst C dX6_kind_0 ?_
  exact gx_iret C G hret (show rng 0 by decide) h dX6_kind_1
def PT_X9_kind (V : Vt) (o : Nat) (S : Me) (Q : Int → Me → Prop) : Prop := Q 3 S
theorem hd_X9_kind : yX9_kind.cls ≠ "java/lang/invoke/MethodHandle" ∧ yX9_kind.cls ≠ "java/lang/invoke/VarHandle" ∧ (parseMethodDescriptor yX9_kind.desc).map (fun d => d.parameters.length) = some 0 := by decide +kernel
set_option maxHeartbeats 4000000 in
set_option maxRecDepth 100000 in
theorem c_X9_kind (l : Launch) (D : va_G) (cy : ClassId × ClassId × ClassId × ClassId) (ad : Nat → Nat) {V : Vt} {S : Me} {o : Nat} (ho : o < V.1) (ht : V.2.1 o = 8) {Q : Int → Me → Prop} (h : PT_X9_kind V o S Q) : KM l D cy yX9_kind cX9_kind 1 (Option.some Jvm.ClassFile.FieldType.int) 0 0 ad V S [.inr (some o)] (qI Q) := by
  refine KM.of (by decide) rfl (Nat.le_of_ble_eq_true rfl) (own := RX9) (fun p e s m args below meth c A ls H locs eA C hret hml hmn hl G => ?_)
  have hl : lo ad ls [some (.inr (some o))] := hl
  clear eA
  unfold PT_X9_kind at h
  refine gx_iconst C dX9_kind_0 ?_
  exact gx_iret C G hret (show rng 3 by decide) h dX9_kind_1
def PT_X10_kind (V : Vt) (o : Nat) (S : Me) (Q : Int → Me → Prop) : Prop := Q 1 S
theorem hd_X10_kind : yX10_kind.cls ≠ "java/lang/invoke/MethodHandle" ∧ yX10_kind.cls ≠ "java/lang/invoke/VarHandle" ∧ (parseMethodDescriptor yX10_kind.desc).map (fun d => d.parameters.length) = some 0 := by decide +kernel
set_option maxHeartbeats 4000000 in
set_option maxRecDepth 100000 in
theorem c_X10_kind (l : Launch) (D : va_G) (cy : ClassId × ClassId × ClassId × ClassId) (ad : Nat → Nat) {V : Vt} {S : Me} {o : Nat} (ho : o < V.1) (ht : isW (V.2.1 o)) {Q : Int → Me → Prop} (h : PT_X10_kind V o S Q) : KM l D cy yX10_kind cX10_kind 1 (Option.some Jvm.ClassFile.FieldType.int) 0 0 ad V S [.inr (some o)] (qI Q) := by
  refine KM.of (by decide) rfl (Nat.le_of_ble_eq_true rfl) (own := RX10) (fun p e s m args below meth c A ls H locs eA C hret hml hmn hl G => ?_)
  have hl : lo ad ls [some (.inr (some o))] := hl
  clear eA
  unfold PT_X10_kind at h
  refine gx_iconst C dX10_kind_0 ?_
  exact gx_iret C G hret (show rng 1 by decide) h dX10_kind_1
def PV_kind (V : Vt) (o : Nat) (S : Me) (Q : Int → Me → Prop) : Prop := (V.2.1 o = 1 → PT_X2_kind V o S Q) ∧ (V.2.1 o = 2 → PT_X3_kind V o S Q) ∧ (V.2.1 o = 5 → PT_X6_kind V o S Q) ∧ (V.2.1 o = 8 → PT_X9_kind V o S Q) ∧ (V.2.1 o = 9 → PT_X10_kind V o S Q)
theorem hd_v_kind : ("RowBank$Ask" : String) ≠ "java/lang/invoke/MethodHandle" ∧ ("RowBank$Ask" : String) ≠ "java/lang/invoke/VarHandle" ∧ (parseMethodDescriptor "()I").map (fun d => d.parameters.length) = some 0 := by decide +kernel
section
variable {p : Program} {l : Launch} {e : Env} {R : Room} {s : State} {m : MethodId} {args : Array Value} {below : List Frame} {meth : Method} {c : Code} {H : Heap} {locs : List Loc} {cells slots : Nat} {Q : State → Prop} {cc : ByteArray} {pc : Nat} {ls : Array Slot} {rest : List Value} {D : va_G} {cy : ClassId × ClassId × ClassId × ClassId} {A : Nat → Prop} {ad : Nat → Nat} {V : Vt} {S : Me} {PL : List (Option (Int ⊕ Option Nat))}
set_option maxHeartbeats 4000000 in
set_option maxRecDepth 100000 in
theorem gv_0_62 (C : Cx p s m args meth c cc RX0 D cy A) (G : Gy D cy A s.heap ad V S H locs) (hlo : lo ad ls PL) (hml : c.maxLocals = PL.length) {r : Option Nat} {z : Nat} (hz : r = some z) (hzl : z < V.1) (hA : isA (V.2.1 z)) {Qi : Int → Me → Prop} (h : PV_kind V z S Qi) (hR : 1 ≤ R.frames ∧ 20 ≤ R.locals) (hRc : cells ≤ R.cells ∧ slots ≤ R.slots) (hW : (rest.map fun v => v.category).sum ≤ 8) (hdg : decode cc pc = .ok (.invokevirtual 62, 3)) (kk : ∀ (x : Int) (S' : Me) (H1 : Heap) (locs1 : List Loc), rng x → Qi x S' → Gy D cy A s.heap ad V S' H1 locs1 → W p l e R s m args below meth c H1 locs1 cells slots Q (F0 m (pc + 3) ls (vI x :: rest))) : W p l e R s m args below meth c H locs cells slots Q (F0 m pc ls (vR ad r :: rest)) := by
  subst hz
  have hdc : va_Decl s ⟨"RowBank$Ask", "kind", "()I"⟩ := va_Decl.abs (C.2.2.2.2.1.2 (.declares (⟨RX0, "kind", "()I"⟩ : MethodName)) (by decide +kernel))
  unfold PV_kind at h
  rcases hA with t | t | t | t | t
  · exact gx_callU (x := (⟨RX0, "kind", "()I"⟩ : MethodName)) (owner := "RowBank$Ask") C G hlo hml (c_X2_kind l D cy ad hzl t (h.1 t)) rfl hzl (by rw [t]; rfl) (by rw [t]; decide) uw_384 uw_379 uw_381 hdc uw_383 uw_382 uw_15 hd_v_kind ⟨Nat.le_trans (Nat.le_of_ble_eq_true rfl) hR.1, Nat.le_trans (Nat.le_of_ble_eq_true rfl) hR.2⟩ hRc rfl rfl hW hdg (kkI kk)
  · exact gx_callU (x := (⟨RX0, "kind", "()I"⟩ : MethodName)) (owner := "RowBank$Ask") C G hlo hml (c_X3_kind l D cy ad hzl t (h.2.1 t)) rfl hzl (by rw [t]; rfl) (by rw [t]; decide) uw_387 uw_379 uw_381 hdc uw_386 uw_385 uw_13 hd_v_kind ⟨Nat.le_trans (Nat.le_of_ble_eq_true rfl) hR.1, Nat.le_trans (Nat.le_of_ble_eq_true rfl) hR.2⟩ hRc rfl rfl hW hdg (kkI kk)
  · exact gx_callU (x := (⟨RX0, "kind", "()I"⟩ : MethodName)) (owner := "RowBank$Ask") C G hlo hml (c_X6_kind l D cy ad hzl t (h.2.2.1 t)) rfl hzl (by rw [t]; rfl) (by rw [t]; decide) uw_390 uw_379 uw_381 hdc uw_389 uw_388 uw_11 hd_v_kind ⟨Nat.le_trans (Nat.le_of_ble_eq_true rfl) hR.1, Nat.le_trans (Nat.le_of_ble_eq_true rfl) hR.2⟩ hRc rfl rfl hW hdg (kkI kk)
  · exact gx_callU (x := (⟨RX0, "kind", "()I"⟩ : MethodName)) (owner := "RowBank$Ask") C G hlo hml (c_X9_kind l D cy ad hzl t (h.2.2.2.1 t)) rfl hzl (by rw [t]; rfl) (by rw [t]; decide) uw_393 uw_379 uw_381 hdc uw_392 uw_391 uw_14 hd_v_kind ⟨Nat.le_trans (Nat.le_of_ble_eq_true rfl) hR.1, Nat.le_trans (Nat.le_of_ble_eq_true rfl) hR.2⟩ hRc rfl rfl hW hdg (kkI kk)
  · exact gx_callU (x := (⟨RX0, "kind", "()I"⟩ : MethodName)) (owner := "RowBank$Ask") C G hlo hml (c_X10_kind l D cy ad hzl (by omega) (h.2.2.2.2 t)) rfl hzl (by rw [t]; rfl) (by rw [t]; decide) uw_396 uw_379 uw_381 hdc uw_395 uw_394 uw_12 hd_v_kind ⟨Nat.le_trans (Nat.le_of_ble_eq_true rfl) hR.1, Nat.le_trans (Nat.le_of_ble_eq_true rfl) hR.2⟩ hRc rfl rfl hW hdg (kkI kk)
end
def PT_X0_isFence (V : Vt) (o : Nat) (S : Me) (Q : Int → Me → Prop) : Prop := PV_kind V o S (fun t2 S1 => ((¬ t2 = 4 → Q 0 S1) ∧ (t2 = 4 → Q 1 S1)))
theorem hd_X0_isFence : yX0_isFence.cls ≠ "java/lang/invoke/MethodHandle" ∧ yX0_isFence.cls ≠ "java/lang/invoke/VarHandle" ∧ (parseMethodDescriptor yX0_isFence.desc).map (fun d => d.parameters.length) = some 0 := by decide +kernel
set_option maxHeartbeats 4000000 in
set_option maxRecDepth 100000 in
theorem c_X0_isFence (l : Launch) (D : va_G) (cy : ClassId × ClassId × ClassId × ClassId) (ad : Nat → Nat) {V : Vt} {S : Me} {o : Nat} (ho : o < V.1) (ht : isA (V.2.1 o)) {Q : Int → Me → Prop} (h : PT_X0_isFence V o S Q) : KM l D cy yX0_isFence cX0_isFence 1 (Option.some Jvm.ClassFile.FieldType.boolean) 1 20 ad V S [.inr (some o)] (qI Q) := by
  refine KM.of (by decide) rfl (Nat.le_of_ble_eq_true rfl) (own := RX0) (fun p e s m args below meth c A ls H locs eA C hret hml hmn hl G => ?_)
  have hl : lo ad ls [some (.inr (some o))] := hl
  clear eA
  unfold PT_X0_isFence at h
  refine gx_aload_n C hl dX0_isFence_0 rfl ?_
  refine gv_0_62 C G hl hml rfl ho ht h ⟨Nat.le_of_ble_eq_true rfl, Nat.le_of_ble_eq_true rfl⟩ ⟨Nat.zero_le _, Nat.zero_le _⟩ (hw_le ad [] rfl (Nat.le_of_ble_eq_true rfl)) dX0_isFence_1 (fun t2 S1 H locs rt2 h G => ?_)
  refine gx_iconst C dX0_isFence_4 ?_
  refine gx_icmp_ne (tgt := 12) C rt2 (show rng 4 by decide) dX0_isFence_5 (by decide) (fun c3 => ?_) (fun c3 => ?_)
  · have h := h.1 c3
    refine gx_iconst C dX0_isFence_12 ?_
    exact gx_zret C G hret (Or.inl rfl) h dX0_isFence_13
  · have h := h.2 c3
    refine gx_iconst C dX0_isFence_8 ?_
    refine gx_goto (tgt := 13) C dX0_isFence_9 (by decide) ?_
    exact gx_zret C G hret (Or.inr rfl) h dX0_isFence_13
def PV_isFence (V : Vt) (o : Nat) (S : Me) (Q : Int → Me → Prop) : Prop := PT_X0_isFence V o S Q
theorem hd_v_isFence : ("RowBank$Ask" : String) ≠ "java/lang/invoke/MethodHandle" ∧ ("RowBank$Ask" : String) ≠ "java/lang/invoke/VarHandle" ∧ (parseMethodDescriptor "()Z").map (fun d => d.parameters.length) = some 0 := by decide +kernel
def B_X0_clashesWith_34 (V : Vt) (o : Nat) (x1 : Option Nat) (S : Me) (Q : Int → Me → Prop) : Prop := Q 1 S
def PT_X0_clashesWith (V : Vt) (o : Nat) (x1 : Option Nat) (S : Me) (Q : Int → Me → Prop) : Prop := (((S.1 o 2) = (-2) → Q 0 S) ∧ (¬ (S.1 o 2) = (-2) → ∃ z4 : Nat, x1 = some z4 ∧ isA (V.2.1 z4) ∧ ((¬ (S.1 o 2) = (S.1 z4 2) → Q 0 S) ∧ ((S.1 o 2) = (S.1 z4 2) → PV_kind V o S (fun t8 S7 => ((¬ t8 = 0 → B_X0_clashesWith_34 V o x1 S7 Q) ∧ (t8 = 0 → PV_kind V z4 S7 (fun t11 S10 => ((t11 = 0 → Q 0 S10) ∧ (¬ t11 = 0 → B_X0_clashesWith_34 V o x1 S10 Q))))))))))
theorem hd_X0_clashesWith : yX0_clashesWith.cls ≠ "java/lang/invoke/MethodHandle" ∧ yX0_clashesWith.cls ≠ "java/lang/invoke/VarHandle" ∧ (parseMethodDescriptor yX0_clashesWith.desc).map (fun d => d.parameters.length) = some 1 := by decide +kernel
set_option maxHeartbeats 4000000 in
set_option maxRecDepth 100000 in
theorem c_X0_clashesWith (l : Launch) (D : va_G) (cy : ClassId × ClassId × ClassId × ClassId) (ad : Nat → Nat) {V : Vt} {S : Me} {o : Nat} {x1 : Option Nat} (ho : o < V.1) (ht : isA (V.2.1 o)) (vx1 : ∀ z, x1 = some z → z < V.1) {Q : Int → Me → Prop} (h : PT_X0_clashesWith V o x1 S Q) : KM l D cy yX0_clashesWith cX0_clashesWith 2 (Option.some Jvm.ClassFile.FieldType.boolean) 1 20 ad V S [.inr (some o), .inr x1] (qI Q) := by
  refine KM.of (by decide) rfl (Nat.le_of_ble_eq_true rfl) (own := RX0) (fun p e s m args below meth c A ls H locs eA C hret hml hmn hl G => ?_)
  have hl : lo ad ls [some (.inr (some o)), some (.inr x1)] := hl
  have b34 : ∀ (S : Me) (H : Heap) (locs : List Loc) (ls : Array Slot), lo ad ls [some (.inr (some o)), some (.inr x1)] → Gy D cy A s.heap ad V S H locs → B_X0_clashesWith_34 V o x1 S Q → W p l e (rmx 1 20) s m args below meth c H locs 0 0 (qm below D cy ad V A args s (qI Q)) (F0 m 34 ls []) := by
    intro S H locs ls hl G h
    unfold B_X0_clashesWith_34 at h
    refine gx_iconst C dX0_clashesWith_34 ?_
    refine gx_goto (tgt := 39) C dX0_clashesWith_35 (by decide) ?_
    exact gx_zret C G hret (Or.inr rfl) h dX0_clashesWith_39
  clear eA
  unfold PT_X0_clashesWith at h
  refine gx_aload_n C hl dX0_clashesWith_0 rfl ?_
  refine gx_getI C G rfl ho (foA_2 ht) uw_312 (fun _ h9 => h9) dX0_clashesWith_1 ?_
  have r1 := G.r o 2
  refine gx_bipush C dX0_clashesWith_4 (by decide) ?_
  refine gx_icmp_eq (tgt := 38) C r1 (show rng (-2) by decide) dX0_clashesWith_6 (by decide) (fun c2 => ?_) (fun c2 => ?_)
  · have h := h.1 c2
    refine gx_iconst C dX0_clashesWith_38 ?_
    exact gx_zret C G hret (Or.inl rfl) h dX0_clashesWith_39
  · have h := h.2 c2
    refine gx_aload_n C hl dX0_clashesWith_9 rfl ?_
    refine gx_getI C G rfl ho (foA_2 ht) uw_312 (fun _ h9 => h9) dX0_clashesWith_10 ?_
    have r3 := G.r o 2
    refine gx_aload_n C hl dX0_clashesWith_13 rfl ?_
    obtain ⟨z4, hz4, tz4, h⟩ := h
    have lz4 := (vx1 z4 hz4)
    refine gx_getI C G hz4 lz4 (foA_2 tz4) uw_312 (fun _ h9 => h9) dX0_clashesWith_14 ?_
    have r5 := G.r z4 2
    refine gx_icmp_ne (tgt := 38) C r3 r5 dX0_clashesWith_17 (by decide) (fun c6 => ?_) (fun c6 => ?_)
    · have h := h.1 c6
      refine gx_iconst C dX0_clashesWith_38 ?_
      exact gx_zret C G hret (Or.inl rfl) h dX0_clashesWith_39
    · have h := h.2 c6
      refine gx_aload_n C hl dX0_clashesWith_20 rfl ?_
      refine gv_0_62 C G hl hml rfl ho ht h ⟨Nat.le_of_ble_eq_true rfl, Nat.le_of_ble_eq_true rfl⟩ ⟨Nat.zero_le _, Nat.zero_le _⟩ (hw_le ad [] rfl (Nat.le_of_ble_eq_true rfl)) dX0_clashesWith_21 (fun t8 S7 H locs rt8 h G => ?_)
      refine gx_if_ne (tgt := 34) C rt8 dX0_clashesWith_24 (by decide) (fun c9 => ?_) (fun c9 => ?_)
      · have h := h.1 c9
        exact b34 S7 H locs ls hl G h
      · have h := h.2 c9
        refine gx_aload_n C hl dX0_clashesWith_27 rfl ?_
        refine gv_0_62 C G hl hml hz4 lz4 tz4 h ⟨Nat.le_of_ble_eq_true rfl, Nat.le_of_ble_eq_true rfl⟩ ⟨Nat.zero_le _, Nat.zero_le _⟩ (hw_le ad [] rfl (Nat.le_of_ble_eq_true rfl)) dX0_clashesWith_28 (fun t11 S10 H locs rt11 h G => ?_)
        refine gx_if_eq (tgt := 38) C rt11 dX0_clashesWith_31 (by decide) (fun c12 => ?_) (fun c12 => ?_)
        · have h := h.1 c12
          refine gx_iconst C dX0_clashesWith_38 ?_
          exact gx_zret C G hret (Or.inl rfl) h dX0_clashesWith_39
        · have h := h.2 c12
          exact b34 S10 H locs ls hl G h
def PV_clashesWith (V : Vt) (o : Nat) (x1 : Option Nat) (S : Me) (Q : Int → Me → Prop) : Prop := PT_X0_clashesWith V o x1 S Q
theorem hd_v_clashesWith : ("RowBank$Ask" : String) ≠ "java/lang/invoke/MethodHandle" ∧ ("RowBank$Ask" : String) ≠ "java/lang/invoke/VarHandle" ∧ (parseMethodDescriptor "(LRowBank$Ask;)Z").map (fun d => d.parameters.length) = some 1 := by decide +kernel
def PT_X0_doneBy (V : Vt) (o : Nat) (S : Me) (Q : Int → Me → Prop) : Prop := Q 3 S
theorem hd_X0_doneBy : yX0_doneBy.cls ≠ "java/lang/invoke/MethodHandle" ∧ yX0_doneBy.cls ≠ "java/lang/invoke/VarHandle" ∧ (parseMethodDescriptor yX0_doneBy.desc).map (fun d => d.parameters.length) = some 0 := by decide +kernel
set_option maxHeartbeats 4000000 in
set_option maxRecDepth 100000 in
theorem c_X0_doneBy (l : Launch) (D : va_G) (cy : ClassId × ClassId × ClassId × ClassId) (ad : Nat → Nat) {V : Vt} {S : Me} {o : Nat} (ho : o < V.1) (ht : isA (V.2.1 o)) {Q : Int → Me → Prop} (h : PT_X0_doneBy V o S Q) : KM l D cy yX0_doneBy cX0_doneBy 1 (Option.some Jvm.ClassFile.FieldType.int) 0 0 ad V S [.inr (some o)] (qI Q) := by
  refine KM.of (by decide) rfl (Nat.le_of_ble_eq_true rfl) (own := RX0) (fun p e s m args below meth c A ls H locs eA C hret hml hmn hl G => ?_)
  have hl : lo ad ls [some (.inr (some o))] := hl
  clear eA
  unfold PT_X0_doneBy at h
  refine gx_iconst C dX0_doneBy_0 ?_
  exact gx_iret C G hret (show rng 3 by decide) h dX0_doneBy_1
def PT_X6_doneBy (V : Vt) (o : Nat) (S : Me) (Q : Int → Me → Prop) : Prop := Q 2 S
theorem hd_X6_doneBy : yX6_doneBy.cls ≠ "java/lang/invoke/MethodHandle" ∧ yX6_doneBy.cls ≠ "java/lang/invoke/VarHandle" ∧ (parseMethodDescriptor yX6_doneBy.desc).map (fun d => d.parameters.length) = some 0 := by decide +kernel
set_option maxHeartbeats 4000000 in
set_option maxRecDepth 100000 in
theorem c_X6_doneBy (l : Launch) (D : va_G) (cy : ClassId × ClassId × ClassId × ClassId) (ad : Nat → Nat) {V : Vt} {S : Me} {o : Nat} (ho : o < V.1) (ht : V.2.1 o = 5) {Q : Int → Me → Prop} (h : PT_X6_doneBy V o S Q) : KM l D cy yX6_doneBy cX6_doneBy 1 (Option.some Jvm.ClassFile.FieldType.int) 0 0 ad V S [.inr (some o)] (qI Q) := by
  refine KM.of (by decide) rfl (Nat.le_of_ble_eq_true rfl) (own := RX6) (fun p e s m args below meth c A ls H locs eA C hret hml hmn hl G => ?_)
  have hl : lo ad ls [some (.inr (some o))] := hl
  clear eA
  unfold PT_X6_doneBy at h
  refine gx_iconst C dX6_doneBy_0 ?_
  exact gx_iret C G hret (show rng 2 by decide) h dX6_doneBy_1
def PV_doneBy (V : Vt) (o : Nat) (S : Me) (Q : Int → Me → Prop) : Prop := (V.2.1 o = 1 → PT_X0_doneBy V o S Q) ∧ (V.2.1 o = 2 → PT_X0_doneBy V o S Q) ∧ (V.2.1 o = 5 → PT_X6_doneBy V o S Q) ∧ (V.2.1 o = 8 → PT_X0_doneBy V o S Q) ∧ (V.2.1 o = 9 → PT_X0_doneBy V o S Q)
theorem hd_v_doneBy : ("RowBank$Ask" : String) ≠ "java/lang/invoke/MethodHandle" ∧ ("RowBank$Ask" : String) ≠ "java/lang/invoke/VarHandle" ∧ (parseMethodDescriptor "()I").map (fun d => d.parameters.length) = some 0 := by decide +kernel
def PT_X0_answerFrom (V : Vt) (o : Nat) (x1 : Int) (S : Me) (Q : Int → Me → Prop) : Prop := Q (-2) S
theorem hd_X0_answerFrom : yX0_answerFrom.cls ≠ "java/lang/invoke/MethodHandle" ∧ yX0_answerFrom.cls ≠ "java/lang/invoke/VarHandle" ∧ (parseMethodDescriptor yX0_answerFrom.desc).map (fun d => d.parameters.length) = some 1 := by decide +kernel
set_option maxHeartbeats 4000000 in
set_option maxRecDepth 100000 in
theorem c_X0_answerFrom (l : Launch) (D : va_G) (cy : ClassId × ClassId × ClassId × ClassId) (ad : Nat → Nat) {V : Vt} {S : Me} {o : Nat} {x1 : Int} (ho : o < V.1) (ht : isA (V.2.1 o)) (rx1 : rng x1) {Q : Int → Me → Prop} (h : PT_X0_answerFrom V o x1 S Q) : KM l D cy yX0_answerFrom cX0_answerFrom 2 (Option.some Jvm.ClassFile.FieldType.int) 0 0 ad V S [.inr (some o), .inl x1] (qI Q) := by
  refine KM.of (by decide) rfl (Nat.le_of_ble_eq_true rfl) (own := RX0) (fun p e s m args below meth c A ls H locs eA C hret hml hmn hl G => ?_)
  have hl : lo ad ls [some (.inr (some o)), some (.inl x1)] := hl
  clear eA
  unfold PT_X0_answerFrom at h
  refine gx_bipush C dX0_answerFrom_0 (by decide) ?_
  exact gx_iret C G hret (show rng (-2) by decide) h dX0_answerFrom_2
def PT_X6_answerFrom (V : Vt) (o : Nat) (x1 : Int) (S : Me) (Q : Int → Me → Prop) : Prop := Q x1 S
theorem hd_X6_answerFrom : yX6_answerFrom.cls ≠ "java/lang/invoke/MethodHandle" ∧ yX6_answerFrom.cls ≠ "java/lang/invoke/VarHandle" ∧ (parseMethodDescriptor yX6_answerFrom.desc).map (fun d => d.parameters.length) = some 1 := by decide +kernel
set_option maxHeartbeats 4000000 in
set_option maxRecDepth 100000 in
theorem c_X6_answerFrom (l : Launch) (D : va_G) (cy : ClassId × ClassId × ClassId × ClassId) (ad : Nat → Nat) {V : Vt} {S : Me} {o : Nat} {x1 : Int} (ho : o < V.1) (ht : V.2.1 o = 5) (rx1 : rng x1) {Q : Int → Me → Prop} (h : PT_X6_answerFrom V o x1 S Q) : KM l D cy yX6_answerFrom cX6_answerFrom 2 (Option.some Jvm.ClassFile.FieldType.int) 0 0 ad V S [.inr (some o), .inl x1] (qI Q) := by
  refine KM.of (by decide) rfl (Nat.le_of_ble_eq_true rfl) (own := RX6) (fun p e s m args below meth c A ls H locs eA C hret hml hmn hl G => ?_)
  have hl : lo ad ls [some (.inr (some o)), some (.inl x1)] := hl
  clear eA
  unfold PT_X6_answerFrom at h
  refine gx_iload_n C hl dX6_answerFrom_0 rfl ?_
  exact gx_iret C G hret rx1 h dX6_answerFrom_1
def PT_X9_answerFrom (V : Vt) (o : Nat) (x1 : Int) (S : Me) (Q : Int → Me → Prop) : Prop := Q x1 S
theorem hd_X9_answerFrom : yX9_answerFrom.cls ≠ "java/lang/invoke/MethodHandle" ∧ yX9_answerFrom.cls ≠ "java/lang/invoke/VarHandle" ∧ (parseMethodDescriptor yX9_answerFrom.desc).map (fun d => d.parameters.length) = some 1 := by decide +kernel
set_option maxHeartbeats 4000000 in
set_option maxRecDepth 100000 in
theorem c_X9_answerFrom (l : Launch) (D : va_G) (cy : ClassId × ClassId × ClassId × ClassId) (ad : Nat → Nat) {V : Vt} {S : Me} {o : Nat} {x1 : Int} (ho : o < V.1) (ht : V.2.1 o = 8) (rx1 : rng x1) {Q : Int → Me → Prop} (h : PT_X9_answerFrom V o x1 S Q) : KM l D cy yX9_answerFrom cX9_answerFrom 2 (Option.some Jvm.ClassFile.FieldType.int) 0 0 ad V S [.inr (some o), .inl x1] (qI Q) := by
  refine KM.of (by decide) rfl (Nat.le_of_ble_eq_true rfl) (own := RX9) (fun p e s m args below meth c A ls H locs eA C hret hml hmn hl G => ?_)
  have hl : lo ad ls [some (.inr (some o)), some (.inl x1)] := hl
  clear eA
  unfold PT_X9_answerFrom at h
  refine gx_iload_n C hl dX9_answerFrom_0 rfl ?_
  exact gx_iret C G hret rx1 h dX9_answerFrom_1
def PV_answerFrom (V : Vt) (o : Nat) (x1 : Int) (S : Me) (Q : Int → Me → Prop) : Prop := (V.2.1 o = 1 → PT_X0_answerFrom V o x1 S Q) ∧ (V.2.1 o = 2 → PT_X0_answerFrom V o x1 S Q) ∧ (V.2.1 o = 5 → PT_X6_answerFrom V o x1 S Q) ∧ (V.2.1 o = 8 → PT_X9_answerFrom V o x1 S Q) ∧ (V.2.1 o = 9 → PT_X0_answerFrom V o x1 S Q)
theorem hd_v_answerFrom : ("RowBank$Ask" : String) ≠ "java/lang/invoke/MethodHandle" ∧ ("RowBank$Ask" : String) ≠ "java/lang/invoke/VarHandle" ∧ (parseMethodDescriptor "(I)I").map (fun d => d.parameters.length) = some 1 := by decide +kernel
def PT_X0_octetAfter (V : Vt) (o : Nat) (x1 : Int) (S : Me) (Q : Int → Me → Prop) : Prop := Q x1 S
theorem hd_X0_octetAfter : yX0_octetAfter.cls ≠ "java/lang/invoke/MethodHandle" ∧ yX0_octetAfter.cls ≠ "java/lang/invoke/VarHandle" ∧ (parseMethodDescriptor yX0_octetAfter.desc).map (fun d => d.parameters.length) = some 1 := by decide +kernel
set_option maxHeartbeats 4000000 in
set_option maxRecDepth 100000 in
theorem c_X0_octetAfter (l : Launch) (D : va_G) (cy : ClassId × ClassId × ClassId × ClassId) (ad : Nat → Nat) {V : Vt} {S : Me} {o : Nat} {x1 : Int} (ho : o < V.1) (ht : isA (V.2.1 o)) (rx1 : rng x1) {Q : Int → Me → Prop} (h : PT_X0_octetAfter V o x1 S Q) : KM l D cy yX0_octetAfter cX0_octetAfter 2 (Option.some Jvm.ClassFile.FieldType.int) 0 0 ad V S [.inr (some o), .inl x1] (qI Q) := by
  refine KM.of (by decide) rfl (Nat.le_of_ble_eq_true rfl) (own := RX0) (fun p e s m args below meth c A ls H locs eA C hret hml hmn hl G => ?_)
  have hl : lo ad ls [some (.inr (some o)), some (.inl x1)] := hl
  clear eA
  unfold PT_X0_octetAfter at h
  refine gx_iload_n C hl dX0_octetAfter_0 rfl ?_
  exact gx_iret C G hret rx1 h dX0_octetAfter_1
def PT_X3_octetAfter (V : Vt) (o : Nat) (x1 : Int) (S : Me) (Q : Int → Me → Prop) : Prop := Q (bOr (bAnd x1 (bXor (S.1 o 12) (-1))) (bAnd (S.1 o 11) (S.1 o 12))) S
theorem hd_X3_octetAfter : yX3_octetAfter.cls ≠ "java/lang/invoke/MethodHandle" ∧ yX3_octetAfter.cls ≠ "java/lang/invoke/VarHandle" ∧ (parseMethodDescriptor yX3_octetAfter.desc).map (fun d => d.parameters.length) = some 1 := by decide +kernel
set_option maxHeartbeats 4000000 in
set_option maxRecDepth 100000 in
theorem c_X3_octetAfter (l : Launch) (D : va_G) (cy : ClassId × ClassId × ClassId × ClassId) (ad : Nat → Nat) {V : Vt} {S : Me} {o : Nat} {x1 : Int} (ho : o < V.1) (ht : V.2.1 o = 2) (rx1 : rng x1) {Q : Int → Me → Prop} (h : PT_X3_octetAfter V o x1 S Q) : KM l D cy yX3_octetAfter cX3_octetAfter 2 (Option.some Jvm.ClassFile.FieldType.int) 0 0 ad V S [.inr (some o), .inl x1] (qI Q) := by
  refine KM.of (by decide) rfl (Nat.le_of_ble_eq_true rfl) (own := RX3) (fun p e s m args below meth c A ls H locs eA C hret hml hmn hl G => ?_)
  have hl : lo ad ls [some (.inr (some o)), some (.inl x1)] := hl
  clear eA
  unfold PT_X3_octetAfter at h
  refine gx_iload_n C hl dX3_octetAfter_0 rfl ?_
  refine gx_aload_n C hl dX3_octetAfter_1 rfl ?_
  refine gx_getI C G rfl ho (fo2_12 ht) uw_437 (fun _ h9 => h9) dX3_octetAfter_2 ?_
  have r1 := G.r o 12
  refine gx_iconst C dX3_octetAfter_5 ?_
  refine gx_ixor C dX3_octetAfter_6 ?_
  refine gx_iand C dX3_octetAfter_7 ?_
  refine gx_aload_n C hl dX3_octetAfter_8 rfl ?_
  refine gx_getI C G rfl ho (fo2_11 ht) uw_411 (u_same (C.2.2.2.1 _ uw_412)) dX3_octetAfter_9 ?_
  have r2 := G.r o 11
  refine gx_aload_n C hl dX3_octetAfter_12 rfl ?_
  refine gx_getI C G rfl ho (fo2_12 ht) uw_437 (fun _ h9 => h9) dX3_octetAfter_13 ?_
  have r3 := G.r o 12
  refine gx_iand C dX3_octetAfter_16 ?_
  refine gx_ior C dX3_octetAfter_17 ?_
  exact gx_iret C G hret (rg_o _) h dX3_octetAfter_18
def PT_X10_octetAfter (V : Vt) (o : Nat) (x1 : Int) (S : Me) (Q : Int → Me → Prop) : Prop := Q (S.1 o 11) S
theorem hd_X10_octetAfter : yX10_octetAfter.cls ≠ "java/lang/invoke/MethodHandle" ∧ yX10_octetAfter.cls ≠ "java/lang/invoke/VarHandle" ∧ (parseMethodDescriptor yX10_octetAfter.desc).map (fun d => d.parameters.length) = some 1 := by decide +kernel
set_option maxHeartbeats 4000000 in
set_option maxRecDepth 100000 in
theorem c_X10_octetAfter (l : Launch) (D : va_G) (cy : ClassId × ClassId × ClassId × ClassId) (ad : Nat → Nat) {V : Vt} {S : Me} {o : Nat} {x1 : Int} (ho : o < V.1) (ht : isW (V.2.1 o)) (rx1 : rng x1) {Q : Int → Me → Prop} (h : PT_X10_octetAfter V o x1 S Q) : KM l D cy yX10_octetAfter cX10_octetAfter 2 (Option.some Jvm.ClassFile.FieldType.int) 0 0 ad V S [.inr (some o), .inl x1] (qI Q) := by
  refine KM.of (by decide) rfl (Nat.le_of_ble_eq_true rfl) (own := RX10) (fun p e s m args below meth c A ls H locs eA C hret hml hmn hl G => ?_)
  have hl : lo ad ls [some (.inr (some o)), some (.inl x1)] := hl
  clear eA
  unfold PT_X10_octetAfter at h
  refine gx_aload_n C hl dX10_octetAfter_0 rfl ?_
  refine gx_getI C G rfl ho (foW_11 ht) uw_410 (fun _ h9 => h9) dX10_octetAfter_1 ?_
  have r1 := G.r o 11
  exact gx_iret C G hret r1 h dX10_octetAfter_4
def PV_octetAfter (V : Vt) (o : Nat) (x1 : Int) (S : Me) (Q : Int → Me → Prop) : Prop := (V.2.1 o = 1 → PT_X0_octetAfter V o x1 S Q) ∧ (V.2.1 o = 2 → PT_X3_octetAfter V o x1 S Q) ∧ (V.2.1 o = 5 → PT_X0_octetAfter V o x1 S Q) ∧ (V.2.1 o = 8 → PT_X10_octetAfter V o x1 S Q) ∧ (V.2.1 o = 9 → PT_X10_octetAfter V o x1 S Q)
theorem hd_v_octetAfter : ("RowBank$Ask" : String) ≠ "java/lang/invoke/MethodHandle" ∧ ("RowBank$Ask" : String) ≠ "java/lang/invoke/VarHandle" ∧ (parseMethodDescriptor "(I)I").map (fun d => d.parameters.length) = some 1 := by decide +kernel
