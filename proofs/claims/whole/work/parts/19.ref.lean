def PT_X12_thrown (V : Vt) (o : Nat) (S : Me) (Q : Int → Me → Prop) : Prop := Q (S.1 o 0) S
theorem hd_X12_thrown : yX12_thrown.cls ≠ "java/lang/invoke/MethodHandle" ∧ yX12_thrown.cls ≠ "java/lang/invoke/VarHandle" ∧ (parseMethodDescriptor yX12_thrown.desc).map (fun d => d.parameters.length) = some 0 := by decide +kernel
set_option maxHeartbeats 4000000 in
set_option maxRecDepth 100000 in
theorem c_X12_thrown (l : Launch) (D : va_G) (cy : ClassId × ClassId × ClassId × ClassId) (ad : Nat → Nat) {V : Vt} {S : Me} {o : Nat} (hV : fX12 V o) {Q : Int → Me → Prop} (h : PT_X12_thrown V o S Q) : KM l D cy yX12_thrown cX12_thrown 1 (Option.some Jvm.ClassFile.FieldType.int) 0 0 ad V S [.inr (some o)] (qI Q) := by
  refine KM.of (by decide) rfl (Nat.le_of_ble_eq_true rfl) (own := RX12) (fun p e s m args below meth c A ls H locs eA C hret hml hmn hl G => ?_)
  have hl : lo ad ls [some (.inr (some o))] := hl
  clear eA
  unfold PT_X12_thrown at h
  refine gx_aload_n C hl dX12_thrown_0 rfl ?_
  refine gx_getI C G rfl (fX12_o hV) (fo11_0 (fX12_c hV)) uw_955 (fun _ h9 => h9) dX12_thrown_1 ?_
  have r1 := G.r o 0
  exact gx_iret C G hret r1 h dX12_thrown_4
def PT_X12_time (V : Vt) (o : Nat) (x1 : Int) (x2 : Int) (S : Me) (Q : Int → Me → Prop) : Prop := ∀ S1 : Me, S1 = sI S o 0 0 → (((isin x1 0 12) = 0 → Q (-1) S1) ∧ (¬ (isin x1 0 12) = 0 → ((¬ (isin x2 1 30) = 0 → (0 ≤ x1 ∧ x1 < 13) ∧ (0 ≤ x1 ∧ x1 < 13) ∧ ∀ S7 : Me, S7 = sI S1 (o + 1) (Int.toNat x1) x2 → Q (S1.1 (o + 1) (Int.toNat x1)) S7) ∧ ((isin x2 1 30) = 0 → Q (-1) S1))))
theorem hd_X12_time : yX12_time.cls ≠ "java/lang/invoke/MethodHandle" ∧ yX12_time.cls ≠ "java/lang/invoke/VarHandle" ∧ (parseMethodDescriptor yX12_time.desc).map (fun d => d.parameters.length) = some 2 := by decide +kernel
set_option maxHeartbeats 4000000 in
set_option maxRecDepth 100000 in
theorem c_X12_time (l : Launch) (D : va_G) (cy : ClassId × ClassId × ClassId × ClassId) (ad : Nat → Nat) {V : Vt} {S : Me} {o : Nat} {x1 : Int} {x2 : Int} (hV : fX12 V o) (rx1 : rng x1) (rx2 : rng x2) {Q : Int → Me → Prop} (h : PT_X12_time V o x1 x2 S Q) : KM l D cy yX12_time cX12_time 4 (Option.some Jvm.ClassFile.FieldType.int) 1 25 ad V S [.inr (some o), .inl x1, .inl x2] (qI Q) := by
  refine KM.of (by decide) rfl (Nat.le_of_ble_eq_true rfl) (own := RX12) (fun p e s m args below meth c A ls H locs eA C hret hml hmn hl G => ?_)
  have hl : lo ad ls [some (.inr (some o)), some (.inl x1), some (.inl x2), none] := hl
  clear eA
  unfold PT_X12_time at h
  refine gx_aload_n C hl dX12_time_0 rfl ?_
  refine gx_iconst C dX12_time_1 ?_
  refine gx_putI C G rfl (fX12_o hV) (fo11_0 (fX12_c hV)) (show rng 0 by decide) uw_955 (fun _ h9 => h9) dX12_time_2 (fun H locs G => ?_)
  obtain ⟨S1, eS1⟩ : ∃ q9 : Me, q9 = sI S o 0 0 := ⟨_, rfl⟩
  have h := h S1 eS1
  rw [← eS1] at G
  refine gx_iload_n C hl dX12_time_5 rfl ?_
  refine gx_i2l C rx1 dX12_time_6 ?_
  refine gx_lconst (x := 0) C (by decide) dX12_time_7 ?_
  refine gx_ldc2 (n := 12) C uw_1114 dX12_time_8 ?_
  refine gx_isIn C G hl hml rx1 (show rng 0 by decide) (show rng 12 by decide) uw_1115 ⟨Nat.le_of_ble_eq_true rfl, Nat.le_of_ble_eq_true rfl⟩ ⟨Nat.zero_le _, Nat.zero_le _⟩ (hw_le ad [] rfl (Nat.le_of_ble_eq_true rfl)) dX12_time_11 ?_
  refine gx_if_eq (tgt := 29) C (isin_r _ _ _) dX12_time_14 (by decide) (fun c2 => ?_) (fun c2 => ?_)
  · have h := h.1 c2
    refine gx_iconst C dX12_time_29 ?_
    exact gx_iret C G hret (show rng (-1) by decide) h dX12_time_30
  · have h := h.2 c2
    refine gx_iload_n C hl dX12_time_17 rfl ?_
    refine gx_i2l C rx2 dX12_time_18 ?_
    refine gx_lconst (x := 1) C (by decide) dX12_time_19 ?_
    refine gx_ldc2 (n := 30) C uw_1118 dX12_time_20 ?_
    refine gx_isIn C G hl hml rx2 (show rng 1 by decide) (show rng 30 by decide) uw_1115 ⟨Nat.le_of_ble_eq_true rfl, Nat.le_of_ble_eq_true rfl⟩ ⟨Nat.zero_le _, Nat.zero_le _⟩ (hw_le ad [] rfl (Nat.le_of_ble_eq_true rfl)) dX12_time_23 ?_
    refine gx_if_ne (tgt := 31) C (isin_r _ _ _) dX12_time_26 (by decide) (fun c3 => ?_) (fun c3 => ?_)
    · have h := h.1 c3
      refine gx_aload_n C hl dX12_time_31 rfl ?_
      refine gx_getF C G rfl (fX12_o hV) (fo11_1 (fX12_c hV)) (fX12_time hV) uw_956 (fun _ h9 => h9) dX12_time_32 ?_
      refine gx_iload_n C hl dX12_time_35 rfl ?_
      obtain ⟨h4, h⟩ := h
      refine gx_iald C G rfl (fX12_time_l hV) (fX12_time_t hV) rx1 h4.1 (ixl (fX12_time_n hV) h4.2) dX12_time_36 ?_
      have r5 := G.r (o + 1) (Int.toNat x1)
      refine gx_istore_n C hl dX12_time_37 (Nat.le_of_ble_eq_true rfl) (PL' := [some (.inr (some o)), some (.inl x1), some (.inl x2), some (.inl (S1.1 (o + 1) (Int.toNat x1)))]) rfl (fun ls hl => ?_)
      refine gx_aload_n C hl dX12_time_38 rfl ?_
      refine gx_getF C G rfl (fX12_o hV) (fo11_1 (fX12_c hV)) (fX12_time hV) uw_956 (fun _ h9 => h9) dX12_time_39 ?_
      refine gx_iload_n C hl dX12_time_42 rfl ?_
      refine gx_iload_n C hl dX12_time_43 rfl ?_
      obtain ⟨h6, h⟩ := h
      refine gx_iast C G rfl (fX12_time_l hV) (fX12_time_t hV) rx1 rx2 h6.1 (ixl (fX12_time_n hV) h6.2) dX12_time_44 (fun H locs G => ?_)
      obtain ⟨S7, eS7⟩ : ∃ q9 : Me, q9 = sI S1 (o + 1) (Int.toNat x1) x2 := ⟨_, rfl⟩
      have h := h S7 eS7
      rw [← eS7] at G
      refine gx_iload_n C hl dX12_time_45 rfl ?_
      exact gx_iret C G hret r5 h dX12_time_46
    · have h := h.2 c3
      refine gx_iconst C dX12_time_29 ?_
      exact gx_iret C G hret (show rng (-1) by decide) h dX12_time_30
def B_X12_refresh_23 (V : Vt) (o : Nat) (x1 : Int) (x2 : Int) (S : Me) (Q : Int → Me → Prop) : Prop := ((¬ (isin x2 1 8) = 0 → ∀ S2 : Me, S2 = sI S o 2 x1 → ∀ S3 : Me, S3 = sI S2 o 3 x2 → Q 0 S3) ∧ ((isin x2 1 8) = 0 → Q (-1) S))
def PT_X12_refresh (V : Vt) (o : Nat) (x1 : Int) (x2 : Int) (S : Me) (Q : Int → Me → Prop) : Prop := ∀ S4 : Me, S4 = sI S o 0 0 → ((x1 = 0 → B_X12_refresh_23 V o x1 x2 S4 Q) ∧ (¬ x1 = 0 → (((isin x1 20 400) = 0 → Q (-1) S4) ∧ (¬ (isin x1 20 400) = 0 → B_X12_refresh_23 V o x1 x2 S4 Q))))
theorem hd_X12_refresh : yX12_refresh.cls ≠ "java/lang/invoke/MethodHandle" ∧ yX12_refresh.cls ≠ "java/lang/invoke/VarHandle" ∧ (parseMethodDescriptor yX12_refresh.desc).map (fun d => d.parameters.length) = some 2 := by decide +kernel
set_option maxHeartbeats 4000000 in
set_option maxRecDepth 100000 in
theorem c_X12_refresh (l : Launch) (D : va_G) (cy : ClassId × ClassId × ClassId × ClassId) (ad : Nat → Nat) {V : Vt} {S : Me} {o : Nat} {x1 : Int} {x2 : Int} (hV : fX12 V o) (rx1 : rng x1) (rx2 : rng x2) {Q : Int → Me → Prop} (h : PT_X12_refresh V o x1 x2 S Q) : KM l D cy yX12_refresh cX12_refresh 3 (Option.some Jvm.ClassFile.FieldType.int) 1 25 ad V S [.inr (some o), .inl x1, .inl x2] (qI Q) := by
  refine KM.of (by decide) rfl (Nat.le_of_ble_eq_true rfl) (own := RX12) (fun p e s m args below meth c A ls H locs eA C hret hml hmn hl G => ?_)
  have hl : lo ad ls [some (.inr (some o)), some (.inl x1), some (.inl x2)] := hl
  have b23 : ∀ (S : Me) (H : Heap) (locs : List Loc) (ls : Array Slot), lo ad ls [some (.inr (some o)), some (.inl x1), some (.inl x2)] → Gy D cy A s.heap ad V S H locs → B_X12_refresh_23 V o x1 x2 S Q → W p l e (rmx 1 25) s m args below meth c H locs 0 0 (qm below D cy ad V A args s (qI Q)) (F0 m 23 ls []) := by
    intro S H locs ls hl G h
    unfold B_X12_refresh_23 at h
    refine gx_iload_n C hl dX12_refresh_23 rfl ?_
    refine gx_i2l C rx2 dX12_refresh_24 ?_
    refine gx_lconst (x := 1) C (by decide) dX12_refresh_25 ?_
    refine gx_ldc2 (n := 8) C uw_1125 dX12_refresh_26 ?_
    refine gx_isIn C G hl hml rx2 (show rng 1 by decide) (show rng 8 by decide) uw_1115 ⟨Nat.le_of_ble_eq_true rfl, Nat.le_of_ble_eq_true rfl⟩ ⟨Nat.zero_le _, Nat.zero_le _⟩ (hw_le ad [] rfl (Nat.le_of_ble_eq_true rfl)) dX12_refresh_29 ?_
    refine gx_if_ne (tgt := 37) C (isin_r _ _ _) dX12_refresh_32 (by decide) (fun c1 => ?_) (fun c1 => ?_)
    · have h := h.1 c1
      refine gx_aload_n C hl dX12_refresh_37 rfl ?_
      refine gx_iload_n C hl dX12_refresh_38 rfl ?_
      refine gx_putI C G rfl (fX12_o hV) (fo11_2 (fX12_c hV)) rx1 uw_957 (fun _ h9 => h9) dX12_refresh_39 (fun H locs G => ?_)
      obtain ⟨S2, eS2⟩ : ∃ q9 : Me, q9 = sI S o 2 x1 := ⟨_, rfl⟩
      have h := h S2 eS2
      rw [← eS2] at G
      refine gx_aload_n C hl dX12_refresh_42 rfl ?_
      refine gx_iload_n C hl dX12_refresh_43 rfl ?_
      refine gx_putI C G rfl (fX12_o hV) (fo11_3 (fX12_c hV)) rx2 uw_958 (fun _ h9 => h9) dX12_refresh_44 (fun H locs G => ?_)
      obtain ⟨S3, eS3⟩ : ∃ q9 : Me, q9 = sI S2 o 3 x2 := ⟨_, rfl⟩
      have h := h S3 eS3
      rw [← eS3] at G
      refine gx_iconst C dX12_refresh_47 ?_
      exact gx_iret C G hret (show rng 0 by decide) h dX12_refresh_48
    · have h := h.2 c1
      refine gx_iconst C dX12_refresh_35 ?_
      exact gx_iret C G hret (show rng (-1) by decide) h dX12_refresh_36
  clear eA
  unfold PT_X12_refresh at h
  refine gx_aload_n C hl dX12_refresh_0 rfl ?_
  refine gx_iconst C dX12_refresh_1 ?_
  refine gx_putI C G rfl (fX12_o hV) (fo11_0 (fX12_c hV)) (show rng 0 by decide) uw_955 (fun _ h9 => h9) dX12_refresh_2 (fun H locs G => ?_)
  obtain ⟨S4, eS4⟩ : ∃ q9 : Me, q9 = sI S o 0 0 := ⟨_, rfl⟩
  have h := h S4 eS4
  rw [← eS4] at G
  refine gx_iload_n C hl dX12_refresh_5 rfl ?_
  refine gx_if_eq (tgt := 23) C rx1 dX12_refresh_6 (by decide) (fun c5 => ?_) (fun c5 => ?_)
  · have h := h.1 c5
    exact b23 S4 H locs ls hl G h
  · have h := h.2 c5
    refine gx_iload_n C hl dX12_refresh_9 rfl ?_
    refine gx_i2l C rx1 dX12_refresh_10 ?_
    refine gx_ldc2 (n := 20) C uw_1123 dX12_refresh_11 ?_
    refine gx_ldc2 (n := 400) C uw_1124 dX12_refresh_14 ?_
    refine gx_isIn C G hl hml rx1 (show rng 20 by decide) (show rng 400 by decide) uw_1115 ⟨Nat.le_of_ble_eq_true rfl, Nat.le_of_ble_eq_true rfl⟩ ⟨Nat.zero_le _, Nat.zero_le _⟩ (hw_le ad [] rfl (Nat.le_of_ble_eq_true rfl)) dX12_refresh_17 ?_
    refine gx_if_eq (tgt := 35) C (isin_r _ _ _) dX12_refresh_20 (by decide) (fun c6 => ?_) (fun c6 => ?_)
    · have h := h.1 c6
      refine gx_iconst C dX12_refresh_35 ?_
      exact gx_iret C G hret (show rng (-1) by decide) h dX12_refresh_36
    · have h := h.2 c6
      exact b23 S4 H locs ls hl G h
def PT_X12_order (V : Vt) (o : Nat) (x1 : Int) (x2 : Int) (S : Me) (Q : Int → Me → Prop) : Prop := ∀ S1 : Me, S1 = sI S o 0 0 → (((isin x1 0 2) = 0 → Q (-1) S1) ∧ (¬ (isin x1 0 2) = 0 → ((¬ (isin x2 1 20) = 0 → ∀ S4 : Me, S4 = sI S1 o 4 x1 → ∀ S5 : Me, S5 = sI S4 o 5 x2 → Q 0 S5) ∧ ((isin x2 1 20) = 0 → Q (-1) S1))))
theorem hd_X12_order : yX12_order.cls ≠ "java/lang/invoke/MethodHandle" ∧ yX12_order.cls ≠ "java/lang/invoke/VarHandle" ∧ (parseMethodDescriptor yX12_order.desc).map (fun d => d.parameters.length) = some 2 := by decide +kernel
set_option maxHeartbeats 4000000 in
set_option maxRecDepth 100000 in
theorem c_X12_order (l : Launch) (D : va_G) (cy : ClassId × ClassId × ClassId × ClassId) (ad : Nat → Nat) {V : Vt} {S : Me} {o : Nat} {x1 : Int} {x2 : Int} (hV : fX12 V o) (rx1 : rng x1) (rx2 : rng x2) {Q : Int → Me → Prop} (h : PT_X12_order V o x1 x2 S Q) : KM l D cy yX12_order cX12_order 3 (Option.some Jvm.ClassFile.FieldType.int) 1 25 ad V S [.inr (some o), .inl x1, .inl x2] (qI Q) := by
  refine KM.of (by decide) rfl (Nat.le_of_ble_eq_true rfl) (own := RX12) (fun p e s m args below meth c A ls H locs eA C hret hml hmn hl G => ?_)
  have hl : lo ad ls [some (.inr (some o)), some (.inl x1), some (.inl x2)] := hl
  clear eA
  unfold PT_X12_order at h
  refine gx_aload_n C hl dX12_order_0 rfl ?_
  refine gx_iconst C dX12_order_1 ?_
  refine gx_putI C G rfl (fX12_o hV) (fo11_0 (fX12_c hV)) (show rng 0 by decide) uw_955 (fun _ h9 => h9) dX12_order_2 (fun H locs G => ?_)
  obtain ⟨S1, eS1⟩ : ∃ q9 : Me, q9 = sI S o 0 0 := ⟨_, rfl⟩
  have h := h S1 eS1
  rw [← eS1] at G
  refine gx_iload_n C hl dX12_order_5 rfl ?_
  refine gx_i2l C rx1 dX12_order_6 ?_
  refine gx_lconst (x := 0) C (by decide) dX12_order_7 ?_
  refine gx_ldc2 (n := 2) C uw_1130 dX12_order_8 ?_
  refine gx_isIn C G hl hml rx1 (show rng 0 by decide) (show rng 2 by decide) uw_1115 ⟨Nat.le_of_ble_eq_true rfl, Nat.le_of_ble_eq_true rfl⟩ ⟨Nat.zero_le _, Nat.zero_le _⟩ (hw_le ad [] rfl (Nat.le_of_ble_eq_true rfl)) dX12_order_11 ?_
  refine gx_if_eq (tgt := 29) C (isin_r _ _ _) dX12_order_14 (by decide) (fun c2 => ?_) (fun c2 => ?_)
  · have h := h.1 c2
    refine gx_iconst C dX12_order_29 ?_
    exact gx_iret C G hret (show rng (-1) by decide) h dX12_order_30
  · have h := h.2 c2
    refine gx_iload_n C hl dX12_order_17 rfl ?_
    refine gx_i2l C rx2 dX12_order_18 ?_
    refine gx_lconst (x := 1) C (by decide) dX12_order_19 ?_
    refine gx_ldc2 (n := 20) C uw_1123 dX12_order_20 ?_
    refine gx_isIn C G hl hml rx2 (show rng 1 by decide) (show rng 20 by decide) uw_1115 ⟨Nat.le_of_ble_eq_true rfl, Nat.le_of_ble_eq_true rfl⟩ ⟨Nat.zero_le _, Nat.zero_le _⟩ (hw_le ad [] rfl (Nat.le_of_ble_eq_true rfl)) dX12_order_23 ?_
    refine gx_if_ne (tgt := 31) C (isin_r _ _ _) dX12_order_26 (by decide) (fun c3 => ?_) (fun c3 => ?_)
    · have h := h.1 c3
      refine gx_aload_n C hl dX12_order_31 rfl ?_
      refine gx_iload_n C hl dX12_order_32 rfl ?_
      refine gx_putI C G rfl (fX12_o hV) (fo11_4 (fX12_c hV)) rx1 uw_959 (fun _ h9 => h9) dX12_order_33 (fun H locs G => ?_)
      obtain ⟨S4, eS4⟩ : ∃ q9 : Me, q9 = sI S1 o 4 x1 := ⟨_, rfl⟩
      have h := h S4 eS4
      rw [← eS4] at G
      refine gx_aload_n C hl dX12_order_36 rfl ?_
      refine gx_iload_n C hl dX12_order_37 rfl ?_
      refine gx_putI C G rfl (fX12_o hV) (fo11_5 (fX12_c hV)) rx2 uw_960 (fun _ h9 => h9) dX12_order_38 (fun H locs G => ?_)
      obtain ⟨S5, eS5⟩ : ∃ q9 : Me, q9 = sI S4 o 5 x2 := ⟨_, rfl⟩
      have h := h S5 eS5
      rw [← eS5] at G
      refine gx_iconst C dX12_order_41 ?_
      exact gx_iret C G hret (show rng 0 by decide) h dX12_order_42
    · have h := h.2 c3
      refine gx_iconst C dX12_order_29 ?_
      exact gx_iret C G hret (show rng (-1) by decide) h dX12_order_30
def PT_X12_rowOf (V : Vt) (x1 : Int) (S : Me) (Q : Int → Me → Prop) : Prop := Q (Int.tdiv x1 64) S
theorem hd_X12_rowOf : yX12_rowOf.cls ≠ "java/lang/invoke/MethodHandle" ∧ yX12_rowOf.cls ≠ "java/lang/invoke/VarHandle" ∧ (parseMethodDescriptor yX12_rowOf.desc).map (fun d => d.parameters.length) = some 1 := by decide +kernel
set_option maxHeartbeats 4000000 in
set_option maxRecDepth 100000 in
theorem c_X12_rowOf (l : Launch) (D : va_G) (cy : ClassId × ClassId × ClassId × ClassId) (ad : Nat → Nat) {V : Vt} {S : Me} {x1 : Int} (rx1 : rng x1) {Q : Int → Me → Prop} (h : PT_X12_rowOf V x1 S Q) : KM l D cy yX12_rowOf cX12_rowOf 1 (Option.some Jvm.ClassFile.FieldType.int) 0 0 ad V S [.inl x1] (qI Q) := by
  refine KM.of (by decide) rfl (Nat.le_of_ble_eq_true rfl) (own := RX12) (fun p e s m args below meth c A ls H locs eA C hret hml hmn hl G => ?_)
  have hl : lo ad ls [some (.inl x1)] := hl
  clear eA
  unfold PT_X12_rowOf at h
  refine gx_iload_n C hl dX12_rowOf_0 rfl ?_
  refine gx_bipush C dX12_rowOf_1 (by decide) ?_
  refine gx_idiv C rx1 (show rng 64 by decide) (by decide) dX12_rowOf_3 ?_
  exact gx_iret C G hret (rg_dv rx1 (by decide)) h dX12_rowOf_4
def PT_X12_bankOf (V : Vt) (x1 : Int) (S : Me) (Q : Int → Me → Prop) : Prop := Q (bXor (Int.tmod (Int.tdiv x1 16) 4) (Int.tmod (Int.tdiv x1 64) 4)) S
theorem hd_X12_bankOf : yX12_bankOf.cls ≠ "java/lang/invoke/MethodHandle" ∧ yX12_bankOf.cls ≠ "java/lang/invoke/VarHandle" ∧ (parseMethodDescriptor yX12_bankOf.desc).map (fun d => d.parameters.length) = some 1 := by decide +kernel
set_option maxHeartbeats 4000000 in
set_option maxRecDepth 100000 in
theorem c_X12_bankOf (l : Launch) (D : va_G) (cy : ClassId × ClassId × ClassId × ClassId) (ad : Nat → Nat) {V : Vt} {S : Me} {x1 : Int} (rx1 : rng x1) {Q : Int → Me → Prop} (h : PT_X12_bankOf V x1 S Q) : KM l D cy yX12_bankOf cX12_bankOf 1 (Option.some Jvm.ClassFile.FieldType.int) 0 0 ad V S [.inl x1] (qI Q) := by
  refine KM.of (by decide) rfl (Nat.le_of_ble_eq_true rfl) (own := RX12) (fun p e s m args below meth c A ls H locs eA C hret hml hmn hl G => ?_)
  have hl : lo ad ls [some (.inl x1)] := hl
  clear eA
  unfold PT_X12_bankOf at h
  refine gx_iload_n C hl dX12_bankOf_0 rfl ?_
  refine gx_bipush C dX12_bankOf_1 (by decide) ?_
  refine gx_idiv C rx1 (show rng 16 by decide) (by decide) dX12_bankOf_3 ?_
  refine gx_iconst C dX12_bankOf_4 ?_
  refine gx_irem C (rg_dv rx1 (by decide)) (show rng 4 by decide) (by decide) dX12_bankOf_5 ?_
  refine gx_iload_n C hl dX12_bankOf_6 rfl ?_
  refine gx_bipush C dX12_bankOf_7 (by decide) ?_
  refine gx_idiv C rx1 (show rng 64 by decide) (by decide) dX12_bankOf_9 ?_
  refine gx_iconst C dX12_bankOf_10 ?_
  refine gx_irem C (rg_dv rx1 (by decide)) (show rng 4 by decide) (by decide) dX12_bankOf_11 ?_
  refine gx_ixor C dX12_bankOf_12 ?_
  exact gx_iret C G hret (rg_o _) h dX12_bankOf_13
def B_X12_findOldest_61 (V : Vt) (o : Nat) (y1 : Int) (w0 : Option Nat) (w1 : Int) (S : Me) (Q : Me → Prop) : Prop := ∃ z1 : Nat, w0 = some z1 ∧ fX12 V z1 ∧ ∀ S2 : Me, S2 = sI S z1 25 w1 → ∀ S3 : Me, S3 = sI S2 o 24 y1 → Q S3
def B_X12_findOldest_37 (V : Vt) (o : Nat) (K9 : Int → Int → Me → Prop) (y2 : Int) (w0 : Int) (S : Me) (Q : Me → Prop) : Prop := (rng (y2 + (-1))) ∧ K9 w0 (y2 + (-1)) S
def B_X12_findOldest_36 (V : Vt) (o : Nat) (K9 : Int → Int → Me → Prop) (y1 : Int) (y2 : Int) (S : Me) (Q : Me → Prop) : Prop := B_X12_findOldest_37 V o K9 y2 y1 S Q
def B_X12_findOldest_9 (V : Vt) (o : Nat) (Q : Me → Prop) : Nat → (Int → Int → Me → Prop)
  | 0 => fun _ _ _ => False
  | n + 1 => fun y1 y2 S => ((y2 < 0 → ((¬ y1 = (S.1 o 24) → B_X12_findOldest_61 V o y1 (some o) 0 S Q) ∧ (y1 = (S.1 o 24) → B_X12_findOldest_61 V o y1 (some o) (S.1 o 25) S Q))) ∧ (¬ y2 < 0 → (0 ≤ y2 ∧ y2 < 400) ∧ ((¬ (S.1 (o + 10) (Int.toNat y2)) = 0 → B_X12_findOldest_36 V o (B_X12_findOldest_9 V o Q n) y1 y2 S Q) ∧ ((S.1 (o + 10) (Int.toNat y2)) = 0 → (0 ≤ y2 ∧ y2 < 400) ∧ (((S.1 (o + 4) (Int.toNat y2)) = 4 → B_X12_findOldest_36 V o (B_X12_findOldest_9 V o Q n) y1 y2 S Q) ∧ (¬ (S.1 (o + 4) (Int.toNat y2)) = 4 → B_X12_findOldest_37 V o (B_X12_findOldest_9 V o Q n) y2 y2 S Q))))))
def PT_X12_findOldest (V : Vt) (o : Nat) (S : Me) (Q : Me → Prop) : Prop := (rng ((S.1 o 13) - 1)) ∧ (∃ n9 : Nat, B_X12_findOldest_9 V o Q n9 (-1) ((S.1 o 13) - 1) S)
theorem hd_X12_findOldest : yX12_findOldest.cls ≠ "java/lang/invoke/MethodHandle" ∧ yX12_findOldest.cls ≠ "java/lang/invoke/VarHandle" ∧ (parseMethodDescriptor yX12_findOldest.desc).map (fun d => d.parameters.length) = some 0 := by decide +kernel
set_option maxHeartbeats 4000000 in
set_option maxRecDepth 100000 in
theorem c_X12_findOldest (l : Launch) (D : va_G) (cy : ClassId × ClassId × ClassId × ClassId) (ad : Nat → Nat) {V : Vt} {S : Me} {o : Nat} (hV : fX12 V o) {Q : Me → Prop} (h : PT_X12_findOldest V o S Q) : KM l D cy yX12_findOldest cX12_findOldest 3 (Option.none : Option Jvm.ClassFile.FieldType) 0 0 ad V S [.inr (some o)] (qV Q) := by
  refine KM.of (by decide) rfl (Nat.le_of_ble_eq_true rfl) (own := RX12) (fun p e s m args below meth c A ls H locs eA C hret hml hmn hl G => ?_)
  have hl : lo ad ls [some (.inr (some o)), none, none] := hl
  have b61 : ∀ (y1 : Int) (w0 : Option Nat) (w1 : Int) (S : Me) (H : Heap) (locs : List Loc) (ls : Array Slot), rng y1 → (∀ z, w0 = some z → z < V.1) → rng w1 → lo ad ls [some (.inr (some o)), some (.inl y1), none] → Gy D cy A s.heap ad V S H locs → B_X12_findOldest_61 V o y1 w0 w1 S Q → W p l e (rmx 0 0) s m args below meth c H locs 0 0 (qm below D cy ad V A args s (qV Q)) (F0 m 61 ls [vI w1, vR ad w0]) := by
    intro y1 w0 w1 S H locs ls ry1 vw0 rw1 hl G h
    unfold B_X12_findOldest_61 at h
    obtain ⟨z1, hz1, tz1, h⟩ := h
    have lz1 := (vw0 z1 hz1)
    refine gx_putI C G hz1 lz1 (fo11_25 (fX12_c tz1)) rw1 uw_980 (fun _ h9 => h9) dX12_findOldest_61 (fun H locs G => ?_)
    obtain ⟨S2, eS2⟩ : ∃ q9 : Me, q9 = sI S z1 25 w1 := ⟨_, rfl⟩
    have h := h S2 eS2
    rw [← eS2] at G
    refine gx_aload_n C hl dX12_findOldest_64 rfl ?_
    refine gx_iload_n C hl dX12_findOldest_65 rfl ?_
    refine gx_putI C G rfl (fX12_o hV) (fo11_24 (fX12_c hV)) ry1 uw_979 (fun _ h9 => h9) dX12_findOldest_66 (fun H locs G => ?_)
    obtain ⟨S3, eS3⟩ : ∃ q9 : Me, q9 = sI S2 o 24 y1 := ⟨_, rfl⟩
    have h := h S3 eS3
    rw [← eS3] at G
    exact gx_vret C G hret h dX12_findOldest_69
  have b37 : ∀ (K9 : Int → Int → Me → Prop) (hK9 : ∀ (y1 : Int) (y2 : Int) (S : Me) (H : Heap) (locs : List Loc) (ls : Array Slot), rng y1 → rng y2 → lo ad ls [some (.inr (some o)), some (.inl y1), some (.inl y2)] → Gy D cy A s.heap ad V S H locs → K9 y1 y2 S → W p l e (rmx 0 0) s m args below meth c H locs 0 0 (qm below D cy ad V A args s (qV Q)) (F0 m 9 ls [])) (y2 : Int) (w0 : Int) (S : Me) (H : Heap) (locs : List Loc) (ls : Array Slot), rng y2 → rng w0 → lo ad ls [some (.inr (some o)), none, some (.inl y2)] → Gy D cy A s.heap ad V S H locs → B_X12_findOldest_37 V o K9 y2 w0 S Q → W p l e (rmx 0 0) s m args below meth c H locs 0 0 (qm below D cy ad V A args s (qV Q)) (F0 m 37 ls [vI w0]) := by
    intro K9 hK9 y2 w0 S H locs ls ry2 rw0 hl G h
    unfold B_X12_findOldest_37 at h
    refine gx_istore_n C hl dX12_findOldest_37 (Nat.le_of_ble_eq_true rfl) (PL' := [some (.inr (some o)), some (.inl w0), some (.inl y2)]) rfl (fun ls hl => ?_)
    obtain ⟨h4, h⟩ := h
    refine gx_iinc C hl dX12_findOldest_38 rfl (PL' := [some (.inr (some o)), some (.inl w0), some (.inl (y2 + (-1)))]) rfl (fun ls hl => ?_)
    refine gx_goto (tgt := 9) C dX12_findOldest_41 (by decide) ?_
    exact hK9 w0 (y2 + (-1)) S H locs ls rw0 h4 hl G h
  have b36 : ∀ (K9 : Int → Int → Me → Prop) (hK9 : ∀ (y1 : Int) (y2 : Int) (S : Me) (H : Heap) (locs : List Loc) (ls : Array Slot), rng y1 → rng y2 → lo ad ls [some (.inr (some o)), some (.inl y1), some (.inl y2)] → Gy D cy A s.heap ad V S H locs → K9 y1 y2 S → W p l e (rmx 0 0) s m args below meth c H locs 0 0 (qm below D cy ad V A args s (qV Q)) (F0 m 9 ls [])) (y1 : Int) (y2 : Int) (S : Me) (H : Heap) (locs : List Loc) (ls : Array Slot), rng y1 → rng y2 → lo ad ls [some (.inr (some o)), some (.inl y1), some (.inl y2)] → Gy D cy A s.heap ad V S H locs → B_X12_findOldest_36 V o K9 y1 y2 S Q → W p l e (rmx 0 0) s m args below meth c H locs 0 0 (qm below D cy ad V A args s (qV Q)) (F0 m 36 ls []) := by
    intro K9 hK9 y1 y2 S H locs ls ry1 ry2 hl G h
    unfold B_X12_findOldest_36 at h
    refine gx_iload_n C hl dX12_findOldest_36 rfl ?_
    exact b37 K9 hK9 y2 y1 S H locs ls ry2 ry1 (lo_mask (bs := [true, false, true]) hl rfl rfl) G h
  have b9 : ∀ (n : Nat) (y1 : Int) (y2 : Int) (S : Me) (H : Heap) (locs : List Loc) (ls : Array Slot), rng y1 → rng y2 → lo ad ls [some (.inr (some o)), some (.inl y1), some (.inl y2)] → Gy D cy A s.heap ad V S H locs → B_X12_findOldest_9 V o Q n y1 y2 S → W p l e (rmx 0 0) s m args below meth c H locs 0 0 (qm below D cy ad V A args s (qV Q)) (F0 m 9 ls []) := by
    intro n
    induction n with
    | zero =>
      intro y1 y2 S H locs ls ry1 ry2 hl G h
      exact absurd h id
    | succ n ih =>
      intro y1 y2 S H locs ls ry1 ry2 hl G h
      rw [B_X12_findOldest_9] at h
      refine gx_iload_n C hl dX12_findOldest_9 rfl ?_
      refine gx_if_lt (tgt := 44) C ry2 dX12_findOldest_10 (by decide) (fun c5 => ?_) (fun c5 => ?_)
      · have h := h.1 c5
        refine gx_aload_n C hl dX12_findOldest_44 rfl ?_
        refine gx_iload_n C hl dX12_findOldest_45 rfl ?_
        refine gx_aload_n C hl dX12_findOldest_46 rfl ?_
        refine gx_getI C G rfl (fX12_o hV) (fo11_24 (fX12_c hV)) uw_979 (fun _ h9 => h9) dX12_findOldest_47 ?_
        have r6 := G.r o 24
        refine gx_icmp_ne (tgt := 60) C ry1 r6 dX12_findOldest_50 (by decide) (fun c7 => ?_) (fun c7 => ?_)
        · have h := h.1 c7
          refine gx_iconst C dX12_findOldest_60 ?_
          exact b61 y1 (some o) 0 S H locs ls ry1 (vsome (fX12_o hV)) (show rng 0 by decide) (lo_mask (bs := [true, true, false]) hl rfl rfl) G h
        · have h := h.2 c7
          refine gx_aload_n C hl dX12_findOldest_53 rfl ?_
          refine gx_getI C G rfl (fX12_o hV) (fo11_25 (fX12_c hV)) uw_980 (fun _ h9 => h9) dX12_findOldest_54 ?_
          have r8 := G.r o 25
          refine gx_goto (tgt := 61) C dX12_findOldest_57 (by decide) ?_
          exact b61 y1 (some o) (S.1 o 25) S H locs ls ry1 (vsome (fX12_o hV)) r8 (lo_mask (bs := [true, true, false]) hl rfl rfl) G h
      · have h := h.2 c5
        refine gx_aload_n C hl dX12_findOldest_13 rfl ?_
        refine gx_getF C G rfl (fX12_o hV) (fo11_21 (fX12_c hV)) (fX12_done hV) uw_976 (fun _ h9 => h9) dX12_findOldest_14 ?_
        refine gx_iload_n C hl dX12_findOldest_17 rfl ?_
        obtain ⟨h9, h⟩ := h
        refine gx_iald C G rfl (fX12_done_l hV) (fX12_done_t hV) ry2 h9.1 (ixl (fX12_done_n hV) h9.2) dX12_findOldest_18 ?_
        have r10 := G.r (o + 10) (Int.toNat y2)
        refine gx_if_ne (tgt := 36) C r10 dX12_findOldest_19 (by decide) (fun c11 => ?_) (fun c11 => ?_)
        · have h := h.1 c11
          exact b36 (B_X12_findOldest_9 V o Q n) ih y1 y2 S H locs ls ry1 ry2 hl G h
        · have h := h.2 c11
          refine gx_aload_n C hl dX12_findOldest_22 rfl ?_
          refine gx_getF C G rfl (fX12_o hV) (fo11_15 (fX12_c hV)) (fX12_kind hV) uw_970 (fun _ h9 => h9) dX12_findOldest_23 ?_
          refine gx_iload_n C hl dX12_findOldest_26 rfl ?_
          obtain ⟨h12, h⟩ := h
          refine gx_iald C G rfl (fX12_kind_l hV) (fX12_kind_t hV) ry2 h12.1 (ixl (fX12_kind_n hV) h12.2) dX12_findOldest_27 ?_
          have r13 := G.r (o + 4) (Int.toNat y2)
          refine gx_iconst C dX12_findOldest_28 ?_
          refine gx_icmp_eq (tgt := 36) C r13 (show rng 4 by decide) dX12_findOldest_29 (by decide) (fun c14 => ?_) (fun c14 => ?_)
          · have h := h.1 c14
            exact b36 (B_X12_findOldest_9 V o Q n) ih y1 y2 S H locs ls ry1 ry2 hl G h
          · have h := h.2 c14
            refine gx_iload_n C hl dX12_findOldest_32 rfl ?_
            refine gx_goto (tgt := 37) C dX12_findOldest_33 (by decide) ?_
            exact b37 (B_X12_findOldest_9 V o Q n) ih y2 y2 S H locs ls ry2 ry2 (lo_mask (bs := [true, false, true]) hl rfl rfl) G h
  clear eA
  unfold PT_X12_findOldest at h
  refine gx_iconst C dX12_findOldest_0 ?_
  refine gx_istore_n C hl dX12_findOldest_1 (Nat.le_of_ble_eq_true rfl) (PL' := [some (.inr (some o)), some (.inl (-1)), none]) rfl (fun ls hl => ?_)
  refine gx_aload_n C hl dX12_findOldest_2 rfl ?_
  refine gx_getI C G rfl (fX12_o hV) (fo11_13 (fX12_c hV)) uw_968 (fun _ h9 => h9) dX12_findOldest_3 ?_
  have r15 := G.r o 13
  refine gx_iconst C dX12_findOldest_6 ?_
  obtain ⟨h16, h⟩ := h
  refine gx_isub C dX12_findOldest_7 ?_
  refine gx_istore_n C hl dX12_findOldest_8 (Nat.le_of_ble_eq_true rfl) (PL' := [some (.inr (some o)), some (.inl (-1)), some (.inl ((S.1 o 13) - 1))]) rfl (fun ls hl => ?_)
  obtain ⟨n9, h⟩ := h
  exact b9 n9 (-1) ((S.1 o 13) - 1) S H locs ls (show rng (-1) by decide) h16 hl G h
def B_X12_added_19 (V : Vt) (o : Nat) (x1 : Int) (x2 : Int) (x3 : Int) (x4 : Int) (x5 : Int) (S : Me) (Q : Int → Me → Prop) : Prop := Q (-2) S
def PT_X12_added (V : Vt) (o : Nat) (x1 : Int) (x2 : Int) (x3 : Int) (x4 : Int) (x5 : Int) (S : Me) (Q : Int → Me → Prop) : Prop := (((S.1 o 14) = 12 → B_X12_added_19 V o x1 x2 x3 x4 x5 S Q) ∧ (¬ (S.1 o 14) = 12 → ((¬ (S.1 o 13) = 400 → (0 ≤ (S.1 o 13) ∧ (S.1 o 13) < 400) ∧ ∀ S7 : Me, S7 = sI S (o + 4) (Int.toNat (S.1 o 13)) x1 → (0 ≤ (S7.1 o 13) ∧ (S7.1 o 13) < 400) ∧ ∀ S10 : Me, S10 = sI S7 (o + 5) (Int.toNat (S7.1 o 13)) x2 → (0 ≤ (S10.1 o 13) ∧ (S10.1 o 13) < 400) ∧ ∀ S13 : Me, S13 = sI S10 (o + 6) (Int.toNat (S10.1 o 13)) x3 → (0 ≤ (S13.1 o 13) ∧ (S13.1 o 13) < 400) ∧ ∀ S16 : Me, S16 = sI S13 (o + 7) (Int.toNat (S13.1 o 13)) x4 → (0 ≤ (S16.1 o 13) ∧ (S16.1 o 13) < 400) ∧ ∀ S19 : Me, S19 = sI S16 (o + 8) (Int.toNat (S16.1 o 13)) x5 → (0 ≤ (S19.1 o 13) ∧ (S19.1 o 13) < 400) ∧ ∀ S23 : Me, S23 = sI S19 (o + 9) (Int.toNat (S19.1 o 13)) (S19.1 o 6) → (0 ≤ (S23.1 o 13) ∧ (S23.1 o 13) < 400) ∧ ∀ S26 : Me, S26 = sI S23 (o + 10) (Int.toNat (S23.1 o 13)) 0 → (0 ≤ (S26.1 o 13) ∧ (S26.1 o 13) < 400) ∧ ∀ S29 : Me, S29 = sI S26 (o + 11) (Int.toNat (S26.1 o 13)) (-2) → (rng ((S29.1 o 13) + 1)) ∧ ∀ S32 : Me, S32 = sI S29 o 13 ((S29.1 o 13) + 1) → (rng ((S32.1 o 14) + 1)) ∧ ∀ S35 : Me, S35 = sI S32 o 14 ((S32.1 o 14) + 1) → PT_X12_findOldest V o S35 (fun S36 => (rng ((S36.1 o 13) - 1)) ∧ Q ((S36.1 o 13) - 1) S36)) ∧ ((S.1 o 13) = 400 → B_X12_added_19 V o x1 x2 x3 x4 x5 S Q))))
theorem hd_X12_added : yX12_added.cls ≠ "java/lang/invoke/MethodHandle" ∧ yX12_added.cls ≠ "java/lang/invoke/VarHandle" ∧ (parseMethodDescriptor yX12_added.desc).map (fun d => d.parameters.length) = some 5 := by decide +kernel
set_option maxHeartbeats 4000000 in
set_option maxRecDepth 100000 in
theorem c_X12_added (l : Launch) (D : va_G) (cy : ClassId × ClassId × ClassId × ClassId) (ad : Nat → Nat) {V : Vt} {S : Me} {o : Nat} {x1 : Int} {x2 : Int} {x3 : Int} {x4 : Int} {x5 : Int} (hV : fX12 V o) (rx1 : rng x1) (rx2 : rng x2) (rx3 : rng x3) (rx4 : rng x4) (rx5 : rng x5) {Q : Int → Me → Prop} (h : PT_X12_added V o x1 x2 x3 x4 x5 S Q) : KM l D cy yX12_added cX12_added 6 (Option.some Jvm.ClassFile.FieldType.int) 1 22 ad V S [.inr (some o), .inl x1, .inl x2, .inl x3, .inl x4, .inl x5] (qI Q) := by
  refine KM.of (by decide) rfl (Nat.le_of_ble_eq_true rfl) (own := RX12) (fun p e s m args below meth c A ls H locs eA C hret hml hmn hl G => ?_)
  have hl : lo ad ls [some (.inr (some o)), some (.inl x1), some (.inl x2), some (.inl x3), some (.inl x4), some (.inl x5)] := hl
  have b19 : ∀ (S : Me) (H : Heap) (locs : List Loc) (ls : Array Slot), lo ad ls [some (.inr (some o)), some (.inl x1), some (.inl x2), some (.inl x3), some (.inl x4), some (.inl x5)] → Gy D cy A s.heap ad V S H locs → B_X12_added_19 V o x1 x2 x3 x4 x5 S Q → W p l e (rmx 1 22) s m args below meth c H locs 0 0 (qm below D cy ad V A args s (qI Q)) (F0 m 19 ls []) := by
    intro S H locs ls hl G h
    unfold B_X12_added_19 at h
    refine gx_bipush C dX12_added_19 (by decide) ?_
    exact gx_iret C G hret (show rng (-2) by decide) h dX12_added_21
  clear eA
  unfold PT_X12_added at h
  refine gx_aload_n C hl dX12_added_0 rfl ?_
  refine gx_getI C G rfl (fX12_o hV) (fo11_14 (fX12_c hV)) uw_969 (fun _ h9 => h9) dX12_added_1 ?_
  have r1 := G.r o 14
  refine gx_bipush C dX12_added_4 (by decide) ?_
  refine gx_icmp_eq (tgt := 19) C r1 (show rng 12 by decide) dX12_added_6 (by decide) (fun c2 => ?_) (fun c2 => ?_)
  · have h := h.1 c2
    exact b19 S H locs ls hl G h
  · have h := h.2 c2
    refine gx_aload_n C hl dX12_added_9 rfl ?_
    refine gx_getI C G rfl (fX12_o hV) (fo11_13 (fX12_c hV)) uw_968 (fun _ h9 => h9) dX12_added_10 ?_
    have r3 := G.r o 13
    refine gx_sipush C dX12_added_13 (by decide) ?_
    refine gx_icmp_ne (tgt := 22) C r3 (show rng 400 by decide) dX12_added_16 (by decide) (fun c4 => ?_) (fun c4 => ?_)
    · have h := h.1 c4
      refine gx_aload_n C hl dX12_added_22 rfl ?_
      refine gx_getF C G rfl (fX12_o hV) (fo11_15 (fX12_c hV)) (fX12_kind hV) uw_970 (fun _ h9 => h9) dX12_added_23 ?_
      refine gx_aload_n C hl dX12_added_26 rfl ?_
      refine gx_getI C G rfl (fX12_o hV) (fo11_13 (fX12_c hV)) uw_968 (fun _ h9 => h9) dX12_added_27 ?_
      have r5 := G.r o 13
      refine gx_iload_n C hl dX12_added_30 rfl ?_
      obtain ⟨h6, h⟩ := h
      refine gx_iast C G rfl (fX12_kind_l hV) (fX12_kind_t hV) r5 rx1 h6.1 (ixl (fX12_kind_n hV) h6.2) dX12_added_31 (fun H locs G => ?_)
      obtain ⟨S7, eS7⟩ : ∃ q9 : Me, q9 = sI S (o + 4) (Int.toNat (S.1 o 13)) x1 := ⟨_, rfl⟩
      have h := h S7 eS7
      rw [← eS7] at G
      refine gx_aload_n C hl dX12_added_32 rfl ?_
      refine gx_getF C G rfl (fX12_o hV) (fo11_16 (fX12_c hV)) (fX12_asker hV) uw_971 (fun _ h9 => h9) dX12_added_33 ?_
      refine gx_aload_n C hl dX12_added_36 rfl ?_
      refine gx_getI C G rfl (fX12_o hV) (fo11_13 (fX12_c hV)) uw_968 (fun _ h9 => h9) dX12_added_37 ?_
      have r8 := G.r o 13
      refine gx_iload_n C hl dX12_added_40 rfl ?_
      obtain ⟨h9, h⟩ := h
      refine gx_iast C G rfl (fX12_asker_l hV) (fX12_asker_t hV) r8 rx2 h9.1 (ixl (fX12_asker_n hV) h9.2) dX12_added_41 (fun H locs G => ?_)
      obtain ⟨S10, eS10⟩ : ∃ q9 : Me, q9 = sI S7 (o + 5) (Int.toNat (S7.1 o 13)) x2 := ⟨_, rfl⟩
      have h := h S10 eS10
      rw [← eS10] at G
      refine gx_aload_n C hl dX12_added_42 rfl ?_
      refine gx_getF C G rfl (fX12_o hV) (fo11_17 (fX12_c hV)) (fX12_address hV) uw_972 (fun _ h9 => h9) dX12_added_43 ?_
      refine gx_aload_n C hl dX12_added_46 rfl ?_
      refine gx_getI C G rfl (fX12_o hV) (fo11_13 (fX12_c hV)) uw_968 (fun _ h9 => h9) dX12_added_47 ?_
      have r11 := G.r o 13
      refine gx_iload_n C hl dX12_added_50 rfl ?_
      obtain ⟨h12, h⟩ := h
      refine gx_iast C G rfl (fX12_address_l hV) (fX12_address_t hV) r11 rx3 h12.1 (ixl (fX12_address_n hV) h12.2) dX12_added_51 (fun H locs G => ?_)
      obtain ⟨S13, eS13⟩ : ∃ q9 : Me, q9 = sI S10 (o + 6) (Int.toNat (S10.1 o 13)) x3 := ⟨_, rfl⟩
      have h := h S13 eS13
      rw [← eS13] at G
      refine gx_aload_n C hl dX12_added_52 rfl ?_
      refine gx_getF C G rfl (fX12_o hV) (fo11_18 (fX12_c hV)) (fX12_value hV) uw_973 (fun _ h9 => h9) dX12_added_53 ?_
      refine gx_aload_n C hl dX12_added_56 rfl ?_
      refine gx_getI C G rfl (fX12_o hV) (fo11_13 (fX12_c hV)) uw_968 (fun _ h9 => h9) dX12_added_57 ?_
      have r14 := G.r o 13
      refine gx_iload C hl dX12_added_60 rfl ?_
      obtain ⟨h15, h⟩ := h
      refine gx_iast C G rfl (fX12_value_l hV) (fX12_value_t hV) r14 rx4 h15.1 (ixl (fX12_value_n hV) h15.2) dX12_added_62 (fun H locs G => ?_)
      obtain ⟨S16, eS16⟩ : ∃ q9 : Me, q9 = sI S13 (o + 7) (Int.toNat (S13.1 o 13)) x4 := ⟨_, rfl⟩
      have h := h S16 eS16
      rw [← eS16] at G
      refine gx_aload_n C hl dX12_added_63 rfl ?_
      refine gx_getF C G rfl (fX12_o hV) (fo11_19 (fX12_c hV)) (fX12_bits hV) uw_974 (fun _ h9 => h9) dX12_added_64 ?_
      refine gx_aload_n C hl dX12_added_67 rfl ?_
      refine gx_getI C G rfl (fX12_o hV) (fo11_13 (fX12_c hV)) uw_968 (fun _ h9 => h9) dX12_added_68 ?_
      have r17 := G.r o 13
      refine gx_iload C hl dX12_added_71 rfl ?_
      obtain ⟨h18, h⟩ := h
      refine gx_iast C G rfl (fX12_bits_l hV) (fX12_bits_t hV) r17 rx5 h18.1 (ixl (fX12_bits_n hV) h18.2) dX12_added_73 (fun H locs G => ?_)
      obtain ⟨S19, eS19⟩ : ∃ q9 : Me, q9 = sI S16 (o + 8) (Int.toNat (S16.1 o 13)) x5 := ⟨_, rfl⟩
      have h := h S19 eS19
      rw [← eS19] at G
      refine gx_aload_n C hl dX12_added_74 rfl ?_
      refine gx_getF C G rfl (fX12_o hV) (fo11_20 (fX12_c hV)) (fX12_came hV) uw_975 (fun _ h9 => h9) dX12_added_75 ?_
      refine gx_aload_n C hl dX12_added_78 rfl ?_
      refine gx_getI C G rfl (fX12_o hV) (fo11_13 (fX12_c hV)) uw_968 (fun _ h9 => h9) dX12_added_79 ?_
      have r20 := G.r o 13
      refine gx_aload_n C hl dX12_added_82 rfl ?_
      refine gx_getI C G rfl (fX12_o hV) (fo11_6 (fX12_c hV)) uw_961 (fun _ h9 => h9) dX12_added_83 ?_
      have r21 := G.r o 6
      obtain ⟨h22, h⟩ := h
      refine gx_iast C G rfl (fX12_came_l hV) (fX12_came_t hV) r20 r21 h22.1 (ixl (fX12_came_n hV) h22.2) dX12_added_86 (fun H locs G => ?_)
      obtain ⟨S23, eS23⟩ : ∃ q9 : Me, q9 = sI S19 (o + 9) (Int.toNat (S19.1 o 13)) (S19.1 o 6) := ⟨_, rfl⟩
      have h := h S23 eS23
      rw [← eS23] at G
      refine gx_aload_n C hl dX12_added_87 rfl ?_
      refine gx_getF C G rfl (fX12_o hV) (fo11_21 (fX12_c hV)) (fX12_done hV) uw_976 (fun _ h9 => h9) dX12_added_88 ?_
      refine gx_aload_n C hl dX12_added_91 rfl ?_
      refine gx_getI C G rfl (fX12_o hV) (fo11_13 (fX12_c hV)) uw_968 (fun _ h9 => h9) dX12_added_92 ?_
      have r24 := G.r o 13
      refine gx_iconst C dX12_added_95 ?_
      obtain ⟨h25, h⟩ := h
      refine gx_iast C G rfl (fX12_done_l hV) (fX12_done_t hV) r24 (show rng 0 by decide) h25.1 (ixl (fX12_done_n hV) h25.2) dX12_added_96 (fun H locs G => ?_)
      obtain ⟨S26, eS26⟩ : ∃ q9 : Me, q9 = sI S23 (o + 10) (Int.toNat (S23.1 o 13)) 0 := ⟨_, rfl⟩
      have h := h S26 eS26
      rw [← eS26] at G
      refine gx_aload_n C hl dX12_added_97 rfl ?_
      refine gx_getF C G rfl (fX12_o hV) (fo11_22 (fX12_c hV)) (fX12_answer hV) uw_977 (fun _ h9 => h9) dX12_added_98 ?_
      refine gx_aload_n C hl dX12_added_101 rfl ?_
      refine gx_getI C G rfl (fX12_o hV) (fo11_13 (fX12_c hV)) uw_968 (fun _ h9 => h9) dX12_added_102 ?_
      have r27 := G.r o 13
      refine gx_bipush C dX12_added_105 (by decide) ?_
      obtain ⟨h28, h⟩ := h
      refine gx_iast C G rfl (fX12_answer_l hV) (fX12_answer_t hV) r27 (show rng (-2) by decide) h28.1 (ixl (fX12_answer_n hV) h28.2) dX12_added_107 (fun H locs G => ?_)
      obtain ⟨S29, eS29⟩ : ∃ q9 : Me, q9 = sI S26 (o + 11) (Int.toNat (S26.1 o 13)) (-2) := ⟨_, rfl⟩
      have h := h S29 eS29
      rw [← eS29] at G
      refine gx_aload_n C hl dX12_added_108 rfl ?_
      refine gx_dupR C dX12_added_109 ?_
      refine gx_getI C G rfl (fX12_o hV) (fo11_13 (fX12_c hV)) uw_968 (fun _ h9 => h9) dX12_added_110 ?_
      have r30 := G.r o 13
      refine gx_iconst C dX12_added_113 ?_
      obtain ⟨h31, h⟩ := h
      refine gx_iadd C dX12_added_114 ?_
      refine gx_putI C G rfl (fX12_o hV) (fo11_13 (fX12_c hV)) h31 uw_968 (fun _ h9 => h9) dX12_added_115 (fun H locs G => ?_)
      obtain ⟨S32, eS32⟩ : ∃ q9 : Me, q9 = sI S29 o 13 ((S29.1 o 13) + 1) := ⟨_, rfl⟩
      have h := h S32 eS32
      rw [← eS32] at G
      refine gx_aload_n C hl dX12_added_118 rfl ?_
      refine gx_dupR C dX12_added_119 ?_
      refine gx_getI C G rfl (fX12_o hV) (fo11_14 (fX12_c hV)) uw_969 (fun _ h9 => h9) dX12_added_120 ?_
      have r33 := G.r o 14
      refine gx_iconst C dX12_added_123 ?_
      obtain ⟨h34, h⟩ := h
      refine gx_iadd C dX12_added_124 ?_
      refine gx_putI C G rfl (fX12_o hV) (fo11_14 (fX12_c hV)) h34 uw_969 (fun _ h9 => h9) dX12_added_125 (fun H locs G => ?_)
      obtain ⟨S35, eS35⟩ : ∃ q9 : Me, q9 = sI S32 o 14 ((S32.1 o 14) + 1) := ⟨_, rfl⟩
      have h := h S35 eS35
      rw [← eS35] at G
      refine gx_aload_n C hl dX12_added_128 rfl ?_
      refine gx_callV C G hl hml (c_X12_findOldest l D cy ad hV h) rfl (fX12_o hV) (by rw [(fX12_c hV)]; rfl) (by rw [(fX12_c hV)]; decide) rfl uw_1148 uw_1145 uw_1147 up_17 uw_9 hd_X12_findOldest ⟨Nat.le_of_ble_eq_true rfl, Nat.le_of_ble_eq_true rfl⟩ ⟨Nat.zero_le _, Nat.zero_le _⟩ rfl rfl (hw_le ad [] rfl (Nat.le_of_ble_eq_true rfl)) dX12_added_129 (kkV (fun S36 H locs h G => ?_))
      refine gx_aload_n C hl dX12_added_132 rfl ?_
      refine gx_getI C G rfl (fX12_o hV) (fo11_13 (fX12_c hV)) uw_968 (fun _ h9 => h9) dX12_added_133 ?_
      have r37 := G.r o 13
      refine gx_iconst C dX12_added_136 ?_
      obtain ⟨h38, h⟩ := h
      refine gx_isub C dX12_added_137 ?_
      exact gx_iret C G hret h38 h dX12_added_138
    · have h := h.2 c4
      exact b19 S H locs ls hl G h
def PT_X12_isRight (V : Vt) (x1 : Int) (x2 : Int) (x3 : Int) (x4 : Int) (S : Me) (Q : Int → Me → Prop) : Prop := (((isin x1 0 3) = 0 → Q 0 S) ∧ (¬ (isin x1 0 3) = 0 → (((isin x2 0 1023) = 0 → Q 0 S) ∧ (¬ (isin x2 0 1023) = 0 → (((isin x3 0 255) = 0 → Q 0 S) ∧ (¬ (isin x3 0 255) = 0 → (((isin x4 0 255) = 0 → Q 0 S) ∧ (¬ (isin x4 0 255) = 0 → Q 1 S))))))))
theorem hd_X12_isRight : yX12_isRight.cls ≠ "java/lang/invoke/MethodHandle" ∧ yX12_isRight.cls ≠ "java/lang/invoke/VarHandle" ∧ (parseMethodDescriptor yX12_isRight.desc).map (fun d => d.parameters.length) = some 4 := by decide +kernel
set_option maxHeartbeats 4000000 in
set_option maxRecDepth 100000 in
theorem c_X12_isRight (l : Launch) (D : va_G) (cy : ClassId × ClassId × ClassId × ClassId) (ad : Nat → Nat) {V : Vt} {S : Me} {x1 : Int} {x2 : Int} {x3 : Int} {x4 : Int} (rx1 : rng x1) (rx2 : rng x2) (rx3 : rng x3) (rx4 : rng x4) {Q : Int → Me → Prop} (h : PT_X12_isRight V x1 x2 x3 x4 S Q) : KM l D cy yX12_isRight cX12_isRight 4 (Option.some Jvm.ClassFile.FieldType.boolean) 1 25 ad V S [.inl x1, .inl x2, .inl x3, .inl x4] (qI Q) := by
  refine KM.of (by decide) rfl (Nat.le_of_ble_eq_true rfl) (own := RX12) (fun p e s m args below meth c A ls H locs eA C hret hml hmn hl G => ?_)
  have hl : lo ad ls [some (.inl x1), some (.inl x2), some (.inl x3), some (.inl x4)] := hl
  clear eA
  unfold PT_X12_isRight at h
  refine gx_iload_n C hl dX12_isRight_0 rfl ?_
  refine gx_i2l C rx1 dX12_isRight_1 ?_
  refine gx_lconst (x := 0) C (by decide) dX12_isRight_2 ?_
  refine gx_ldc2 (n := 3) C uw_1138 dX12_isRight_3 ?_
  refine gx_isIn C G hl hml rx1 (show rng 0 by decide) (show rng 3 by decide) uw_1115 ⟨Nat.le_of_ble_eq_true rfl, Nat.le_of_ble_eq_true rfl⟩ ⟨Nat.zero_le _, Nat.zero_le _⟩ (hw_le ad [] rfl (Nat.le_of_ble_eq_true rfl)) dX12_isRight_6 ?_
  refine gx_if_eq (tgt := 52) C (isin_r _ _ _) dX12_isRight_9 (by decide) (fun c1 => ?_) (fun c1 => ?_)
  · have h := h.1 c1
    refine gx_iconst C dX12_isRight_52 ?_
    exact gx_zret C G hret (Or.inl rfl) h dX12_isRight_53
  · have h := h.2 c1
    refine gx_iload_n C hl dX12_isRight_12 rfl ?_
    refine gx_i2l C rx2 dX12_isRight_13 ?_
    refine gx_lconst (x := 0) C (by decide) dX12_isRight_14 ?_
    refine gx_ldc2 (n := 1023) C uw_1139 dX12_isRight_15 ?_
    refine gx_isIn C G hl hml rx2 (show rng 0 by decide) (show rng 1023 by decide) uw_1115 ⟨Nat.le_of_ble_eq_true rfl, Nat.le_of_ble_eq_true rfl⟩ ⟨Nat.zero_le _, Nat.zero_le _⟩ (hw_le ad [] rfl (Nat.le_of_ble_eq_true rfl)) dX12_isRight_18 ?_
    refine gx_if_eq (tgt := 52) C (isin_r _ _ _) dX12_isRight_21 (by decide) (fun c2 => ?_) (fun c2 => ?_)
    · have h := h.1 c2
      refine gx_iconst C dX12_isRight_52 ?_
      exact gx_zret C G hret (Or.inl rfl) h dX12_isRight_53
    · have h := h.2 c2
      refine gx_iload_n C hl dX12_isRight_24 rfl ?_
      refine gx_i2l C rx3 dX12_isRight_25 ?_
      refine gx_lconst (x := 0) C (by decide) dX12_isRight_26 ?_
      refine gx_ldc2 (n := 255) C uw_1140 dX12_isRight_27 ?_
      refine gx_isIn C G hl hml rx3 (show rng 0 by decide) (show rng 255 by decide) uw_1115 ⟨Nat.le_of_ble_eq_true rfl, Nat.le_of_ble_eq_true rfl⟩ ⟨Nat.zero_le _, Nat.zero_le _⟩ (hw_le ad [] rfl (Nat.le_of_ble_eq_true rfl)) dX12_isRight_30 ?_
      refine gx_if_eq (tgt := 52) C (isin_r _ _ _) dX12_isRight_33 (by decide) (fun c3 => ?_) (fun c3 => ?_)
      · have h := h.1 c3
        refine gx_iconst C dX12_isRight_52 ?_
        exact gx_zret C G hret (Or.inl rfl) h dX12_isRight_53
      · have h := h.2 c3
        refine gx_iload_n C hl dX12_isRight_36 rfl ?_
        refine gx_i2l C rx4 dX12_isRight_37 ?_
        refine gx_lconst (x := 0) C (by decide) dX12_isRight_38 ?_
        refine gx_ldc2 (n := 255) C uw_1140 dX12_isRight_39 ?_
        refine gx_isIn C G hl hml rx4 (show rng 0 by decide) (show rng 255 by decide) uw_1115 ⟨Nat.le_of_ble_eq_true rfl, Nat.le_of_ble_eq_true rfl⟩ ⟨Nat.zero_le _, Nat.zero_le _⟩ (hw_le ad [] rfl (Nat.le_of_ble_eq_true rfl)) dX12_isRight_42 ?_
        refine gx_if_eq (tgt := 52) C (isin_r _ _ _) dX12_isRight_45 (by decide) (fun c4 => ?_) (fun c4 => ?_)
        · have h := h.1 c4
          refine gx_iconst C dX12_isRight_52 ?_
          exact gx_zret C G hret (Or.inl rfl) h dX12_isRight_53
        · have h := h.2 c4
          refine gx_iconst C dX12_isRight_48 ?_
          refine gx_goto (tgt := 53) C dX12_isRight_49 (by decide) ?_
          exact gx_zret C G hret (Or.inr rfl) h dX12_isRight_53
def PT_X12_ask (V : Vt) (o : Nat) (x1 : Int) (x2 : Int) (S : Me) (Q : Int → Me → Prop) : Prop := ∀ S1 : Me, S1 = sI S o 0 0 → PT_X12_isRight V x1 x2 0 0 S1 (fun t3 S2 => ((t3 = 0 → Q (-1) S2) ∧ (¬ t3 = 0 → PT_X12_added V o 0 x1 x2 0 0 S2 (fun t6 S5 => Q t6 S5))))
theorem hd_X12_ask : yX12_ask.cls ≠ "java/lang/invoke/MethodHandle" ∧ yX12_ask.cls ≠ "java/lang/invoke/VarHandle" ∧ (parseMethodDescriptor yX12_ask.desc).map (fun d => d.parameters.length) = some 2 := by decide +kernel
set_option maxHeartbeats 4000000 in
set_option maxRecDepth 100000 in
theorem c_X12_ask (l : Launch) (D : va_G) (cy : ClassId × ClassId × ClassId × ClassId) (ad : Nat → Nat) {V : Vt} {S : Me} {o : Nat} {x1 : Int} {x2 : Int} (hV : fX12 V o) (rx1 : rng x1) (rx2 : rng x2) {Q : Int → Me → Prop} (h : PT_X12_ask V o x1 x2 S Q) : KM l D cy yX12_ask cX12_ask 3 (Option.some Jvm.ClassFile.FieldType.int) 2 48 ad V S [.inr (some o), .inl x1, .inl x2] (qI Q) := by
  refine KM.of (by decide) rfl (Nat.le_of_ble_eq_true rfl) (own := RX12) (fun p e s m args below meth c A ls H locs eA C hret hml hmn hl G => ?_)
  have hl : lo ad ls [some (.inr (some o)), some (.inl x1), some (.inl x2)] := hl
  clear eA
  unfold PT_X12_ask at h
  refine gx_aload_n C hl dX12_ask_0 rfl ?_
  refine gx_iconst C dX12_ask_1 ?_
  refine gx_putI C G rfl (fX12_o hV) (fo11_0 (fX12_c hV)) (show rng 0 by decide) uw_955 (fun _ h9 => h9) dX12_ask_2 (fun H locs G => ?_)
  obtain ⟨S1, eS1⟩ : ∃ q9 : Me, q9 = sI S o 0 0 := ⟨_, rfl⟩
  have h := h S1 eS1
  rw [← eS1] at G
  refine gx_iload_n C hl dX12_ask_5 rfl ?_
  refine gx_iload_n C hl dX12_ask_6 rfl ?_
  refine gx_iconst C dX12_ask_7 ?_
  refine gx_iconst C dX12_ask_8 ?_
  refine gx_callS C G hl hml (c_X12_isRight l D cy ad rx1 rx2 (show rng 0 by decide) (show rng 0 by decide) h) uw_1137 uw_1135 uw_1136 uw_9 hd_X12_isRight ⟨Nat.le_of_ble_eq_true rfl, Nat.le_of_ble_eq_true rfl⟩ ⟨Nat.zero_le _, Nat.zero_le _⟩ rfl rfl (hw_le ad [] rfl (Nat.le_of_ble_eq_true rfl)) dX12_ask_9 (kkI (fun t3 S2 H locs rt3 h G => ?_))
  refine gx_if_eq (tgt := 27) C rt3 dX12_ask_12 (by decide) (fun c4 => ?_) (fun c4 => ?_)
  · have h := h.1 c4
    refine gx_iconst C dX12_ask_27 ?_
    exact gx_iret C G hret (show rng (-1) by decide) h dX12_ask_28
  · have h := h.2 c4
    refine gx_aload_n C hl dX12_ask_15 rfl ?_
    refine gx_iconst C dX12_ask_16 ?_
    refine gx_iload_n C hl dX12_ask_17 rfl ?_
    refine gx_iload_n C hl dX12_ask_18 rfl ?_
    refine gx_iconst C dX12_ask_19 ?_
    refine gx_iconst C dX12_ask_20 ?_
    refine gx_callV C G hl hml (c_X12_added l D cy ad hV (show rng 0 by decide) rx1 rx2 (show rng 0 by decide) (show rng 0 by decide) h) rfl (fX12_o hV) (by rw [(fX12_c hV)]; rfl) (by rw [(fX12_c hV)]; decide) rfl uw_1144 uw_1141 uw_1143 up_16 uw_9 hd_X12_added ⟨Nat.le_of_ble_eq_true rfl, Nat.le_of_ble_eq_true rfl⟩ ⟨Nat.zero_le _, Nat.zero_le _⟩ rfl rfl (hw_le ad [] rfl (Nat.le_of_ble_eq_true rfl)) dX12_ask_21 (kkI (fun t6 S5 H locs rt6 h G => ?_))
    refine gx_goto (tgt := 28) C dX12_ask_24 (by decide) ?_
    exact gx_iret C G hret rt6 h dX12_ask_28
def PT_X12_write (V : Vt) (o : Nat) (x1 : Int) (x2 : Int) (x3 : Int) (S : Me) (Q : Int → Me → Prop) : Prop := ∀ S1 : Me, S1 = sI S o 0 0 → PT_X12_isRight V x1 x2 x3 0 S1 (fun t3 S2 => ((t3 = 0 → Q (-1) S2) ∧ (¬ t3 = 0 → PT_X12_added V o 1 x1 x2 x3 255 S2 (fun t6 S5 => Q t6 S5))))
theorem hd_X12_write : yX12_write.cls ≠ "java/lang/invoke/MethodHandle" ∧ yX12_write.cls ≠ "java/lang/invoke/VarHandle" ∧ (parseMethodDescriptor yX12_write.desc).map (fun d => d.parameters.length) = some 3 := by decide +kernel
set_option maxHeartbeats 4000000 in
set_option maxRecDepth 100000 in
theorem c_X12_write (l : Launch) (D : va_G) (cy : ClassId × ClassId × ClassId × ClassId) (ad : Nat → Nat) {V : Vt} {S : Me} {o : Nat} {x1 : Int} {x2 : Int} {x3 : Int} (hV : fX12 V o) (rx1 : rng x1) (rx2 : rng x2) (rx3 : rng x3) {Q : Int → Me → Prop} (h : PT_X12_write V o x1 x2 x3 S Q) : KM l D cy yX12_write cX12_write 4 (Option.some Jvm.ClassFile.FieldType.int) 2 48 ad V S [.inr (some o), .inl x1, .inl x2, .inl x3] (qI Q) := by
  refine KM.of (by decide) rfl (Nat.le_of_ble_eq_true rfl) (own := RX12) (fun p e s m args below meth c A ls H locs eA C hret hml hmn hl G => ?_)
  have hl : lo ad ls [some (.inr (some o)), some (.inl x1), some (.inl x2), some (.inl x3)] := hl
  clear eA
  unfold PT_X12_write at h
  refine gx_aload_n C hl dX12_write_0 rfl ?_
  refine gx_iconst C dX12_write_1 ?_
  refine gx_putI C G rfl (fX12_o hV) (fo11_0 (fX12_c hV)) (show rng 0 by decide) uw_955 (fun _ h9 => h9) dX12_write_2 (fun H locs G => ?_)
  obtain ⟨S1, eS1⟩ : ∃ q9 : Me, q9 = sI S o 0 0 := ⟨_, rfl⟩
  have h := h S1 eS1
  rw [← eS1] at G
  refine gx_iload_n C hl dX12_write_5 rfl ?_
  refine gx_iload_n C hl dX12_write_6 rfl ?_
  refine gx_iload_n C hl dX12_write_7 rfl ?_
  refine gx_iconst C dX12_write_8 ?_
  refine gx_callS C G hl hml (c_X12_isRight l D cy ad rx1 rx2 rx3 (show rng 0 by decide) h) uw_1137 uw_1135 uw_1136 uw_9 hd_X12_isRight ⟨Nat.le_of_ble_eq_true rfl, Nat.le_of_ble_eq_true rfl⟩ ⟨Nat.zero_le _, Nat.zero_le _⟩ rfl rfl (hw_le ad [] rfl (Nat.le_of_ble_eq_true rfl)) dX12_write_9 (kkI (fun t3 S2 H locs rt3 h G => ?_))
  refine gx_if_eq (tgt := 29) C rt3 dX12_write_12 (by decide) (fun c4 => ?_) (fun c4 => ?_)
  · have h := h.1 c4
    refine gx_iconst C dX12_write_29 ?_
    exact gx_iret C G hret (show rng (-1) by decide) h dX12_write_30
  · have h := h.2 c4
    refine gx_aload_n C hl dX12_write_15 rfl ?_
    refine gx_iconst C dX12_write_16 ?_
    refine gx_iload_n C hl dX12_write_17 rfl ?_
    refine gx_iload_n C hl dX12_write_18 rfl ?_
    refine gx_iload_n C hl dX12_write_19 rfl ?_
    refine gx_sipush C dX12_write_20 (by decide) ?_
    refine gx_callV C G hl hml (c_X12_added l D cy ad hV (show rng 1 by decide) rx1 rx2 rx3 (show rng 255 by decide) h) rfl (fX12_o hV) (by rw [(fX12_c hV)]; rfl) (by rw [(fX12_c hV)]; decide) rfl uw_1144 uw_1141 uw_1143 up_16 uw_9 hd_X12_added ⟨Nat.le_of_ble_eq_true rfl, Nat.le_of_ble_eq_true rfl⟩ ⟨Nat.zero_le _, Nat.zero_le _⟩ rfl rfl (hw_le ad [] rfl (Nat.le_of_ble_eq_true rfl)) dX12_write_23 (kkI (fun t6 S5 H locs rt6 h G => ?_))
    refine gx_goto (tgt := 30) C dX12_write_26 (by decide) ?_
    exact gx_iret C G hret rt6 h dX12_write_30
def PT_X12_mask (V : Vt) (o : Nat) (x1 : Int) (x2 : Int) (x3 : Int) (x4 : Int) (S : Me) (Q : Int → Me → Prop) : Prop := ∀ S1 : Me, S1 = sI S o 0 0 → PT_X12_isRight V x1 x2 x3 x4 S1 (fun t3 S2 => ((t3 = 0 → Q (-1) S2) ∧ (¬ t3 = 0 → PT_X12_added V o 2 x1 x2 x3 x4 S2 (fun t6 S5 => Q t6 S5))))
theorem hd_X12_mask : yX12_mask.cls ≠ "java/lang/invoke/MethodHandle" ∧ yX12_mask.cls ≠ "java/lang/invoke/VarHandle" ∧ (parseMethodDescriptor yX12_mask.desc).map (fun d => d.parameters.length) = some 4 := by decide +kernel
set_option maxHeartbeats 4000000 in
set_option maxRecDepth 100000 in
theorem c_X12_mask (l : Launch) (D : va_G) (cy : ClassId × ClassId × ClassId × ClassId) (ad : Nat → Nat) {V : Vt} {S : Me} {o : Nat} {x1 : Int} {x2 : Int} {x3 : Int} {x4 : Int} (hV : fX12 V o) (rx1 : rng x1) (rx2 : rng x2) (rx3 : rng x3) (rx4 : rng x4) {Q : Int → Me → Prop} (h : PT_X12_mask V o x1 x2 x3 x4 S Q) : KM l D cy yX12_mask cX12_mask 5 (Option.some Jvm.ClassFile.FieldType.int) 2 48 ad V S [.inr (some o), .inl x1, .inl x2, .inl x3, .inl x4] (qI Q) := by
  refine KM.of (by decide) rfl (Nat.le_of_ble_eq_true rfl) (own := RX12) (fun p e s m args below meth c A ls H locs eA C hret hml hmn hl G => ?_)
  have hl : lo ad ls [some (.inr (some o)), some (.inl x1), some (.inl x2), some (.inl x3), some (.inl x4)] := hl
  clear eA
  unfold PT_X12_mask at h
  refine gx_aload_n C hl dX12_mask_0 rfl ?_
  refine gx_iconst C dX12_mask_1 ?_
  refine gx_putI C G rfl (fX12_o hV) (fo11_0 (fX12_c hV)) (show rng 0 by decide) uw_955 (fun _ h9 => h9) dX12_mask_2 (fun H locs G => ?_)
  obtain ⟨S1, eS1⟩ : ∃ q9 : Me, q9 = sI S o 0 0 := ⟨_, rfl⟩
  have h := h S1 eS1
  rw [← eS1] at G
  refine gx_iload_n C hl dX12_mask_5 rfl ?_
  refine gx_iload_n C hl dX12_mask_6 rfl ?_
  refine gx_iload_n C hl dX12_mask_7 rfl ?_
  refine gx_iload C hl dX12_mask_8 rfl ?_
  refine gx_callS C G hl hml (c_X12_isRight l D cy ad rx1 rx2 rx3 rx4 h) uw_1137 uw_1135 uw_1136 uw_9 hd_X12_isRight ⟨Nat.le_of_ble_eq_true rfl, Nat.le_of_ble_eq_true rfl⟩ ⟨Nat.zero_le _, Nat.zero_le _⟩ rfl rfl (hw_le ad [] rfl (Nat.le_of_ble_eq_true rfl)) dX12_mask_10 (kkI (fun t3 S2 H locs rt3 h G => ?_))
  refine gx_if_eq (tgt := 29) C rt3 dX12_mask_13 (by decide) (fun c4 => ?_) (fun c4 => ?_)
  · have h := h.1 c4
    refine gx_iconst C dX12_mask_29 ?_
    exact gx_iret C G hret (show rng (-1) by decide) h dX12_mask_30
  · have h := h.2 c4
    refine gx_aload_n C hl dX12_mask_16 rfl ?_
    refine gx_iconst C dX12_mask_17 ?_
    refine gx_iload_n C hl dX12_mask_18 rfl ?_
    refine gx_iload_n C hl dX12_mask_19 rfl ?_
    refine gx_iload_n C hl dX12_mask_20 rfl ?_
    refine gx_iload C hl dX12_mask_21 rfl ?_
    refine gx_callV C G hl hml (c_X12_added l D cy ad hV (show rng 2 by decide) rx1 rx2 rx3 rx4 h) rfl (fX12_o hV) (by rw [(fX12_c hV)]; rfl) (by rw [(fX12_c hV)]; decide) rfl uw_1144 uw_1141 uw_1143 up_16 uw_9 hd_X12_added ⟨Nat.le_of_ble_eq_true rfl, Nat.le_of_ble_eq_true rfl⟩ ⟨Nat.zero_le _, Nat.zero_le _⟩ rfl rfl (hw_le ad [] rfl (Nat.le_of_ble_eq_true rfl)) dX12_mask_23 (kkI (fun t6 S5 H locs rt6 h G => ?_))
    refine gx_goto (tgt := 30) C dX12_mask_26 (by decide) ?_
    exact gx_iret C G hret rt6 h dX12_mask_30
def PT_X12_swap (V : Vt) (o : Nat) (x1 : Int) (x2 : Int) (x3 : Int) (S : Me) (Q : Int → Me → Prop) : Prop := ∀ S1 : Me, S1 = sI S o 0 0 → PT_X12_isRight V x1 x2 x3 0 S1 (fun t3 S2 => ((t3 = 0 → Q (-1) S2) ∧ (¬ t3 = 0 → PT_X12_added V o 3 x1 x2 x3 255 S2 (fun t6 S5 => Q t6 S5))))
theorem hd_X12_swap : yX12_swap.cls ≠ "java/lang/invoke/MethodHandle" ∧ yX12_swap.cls ≠ "java/lang/invoke/VarHandle" ∧ (parseMethodDescriptor yX12_swap.desc).map (fun d => d.parameters.length) = some 3 := by decide +kernel
set_option maxHeartbeats 4000000 in
set_option maxRecDepth 100000 in
theorem c_X12_swap (l : Launch) (D : va_G) (cy : ClassId × ClassId × ClassId × ClassId) (ad : Nat → Nat) {V : Vt} {S : Me} {o : Nat} {x1 : Int} {x2 : Int} {x3 : Int} (hV : fX12 V o) (rx1 : rng x1) (rx2 : rng x2) (rx3 : rng x3) {Q : Int → Me → Prop} (h : PT_X12_swap V o x1 x2 x3 S Q) : KM l D cy yX12_swap cX12_swap 4 (Option.some Jvm.ClassFile.FieldType.int) 2 48 ad V S [.inr (some o), .inl x1, .inl x2, .inl x3] (qI Q) := by
  refine KM.of (by decide) rfl (Nat.le_of_ble_eq_true rfl) (own := RX12) (fun p e s m args below meth c A ls H locs eA C hret hml hmn hl G => ?_)
  have hl : lo ad ls [some (.inr (some o)), some (.inl x1), some (.inl x2), some (.inl x3)] := hl
  clear eA
  unfold PT_X12_swap at h
  refine gx_aload_n C hl dX12_swap_0 rfl ?_
  refine gx_iconst C dX12_swap_1 ?_
  refine gx_putI C G rfl (fX12_o hV) (fo11_0 (fX12_c hV)) (show rng 0 by decide) uw_955 (fun _ h9 => h9) dX12_swap_2 (fun H locs G => ?_)
  obtain ⟨S1, eS1⟩ : ∃ q9 : Me, q9 = sI S o 0 0 := ⟨_, rfl⟩
  have h := h S1 eS1
  rw [← eS1] at G
  refine gx_iload_n C hl dX12_swap_5 rfl ?_
  refine gx_iload_n C hl dX12_swap_6 rfl ?_
  refine gx_iload_n C hl dX12_swap_7 rfl ?_
  refine gx_iconst C dX12_swap_8 ?_
  refine gx_callS C G hl hml (c_X12_isRight l D cy ad rx1 rx2 rx3 (show rng 0 by decide) h) uw_1137 uw_1135 uw_1136 uw_9 hd_X12_isRight ⟨Nat.le_of_ble_eq_true rfl, Nat.le_of_ble_eq_true rfl⟩ ⟨Nat.zero_le _, Nat.zero_le _⟩ rfl rfl (hw_le ad [] rfl (Nat.le_of_ble_eq_true rfl)) dX12_swap_9 (kkI (fun t3 S2 H locs rt3 h G => ?_))
  refine gx_if_eq (tgt := 29) C rt3 dX12_swap_12 (by decide) (fun c4 => ?_) (fun c4 => ?_)
  · have h := h.1 c4
    refine gx_iconst C dX12_swap_29 ?_
    exact gx_iret C G hret (show rng (-1) by decide) h dX12_swap_30
  · have h := h.2 c4
    refine gx_aload_n C hl dX12_swap_15 rfl ?_
    refine gx_iconst C dX12_swap_16 ?_
    refine gx_iload_n C hl dX12_swap_17 rfl ?_
    refine gx_iload_n C hl dX12_swap_18 rfl ?_
    refine gx_iload_n C hl dX12_swap_19 rfl ?_
    refine gx_sipush C dX12_swap_20 (by decide) ?_
    refine gx_callV C G hl hml (c_X12_added l D cy ad hV (show rng 3 by decide) rx1 rx2 rx3 (show rng 255 by decide) h) rfl (fX12_o hV) (by rw [(fX12_c hV)]; rfl) (by rw [(fX12_c hV)]; decide) rfl uw_1144 uw_1141 uw_1143 up_16 uw_9 hd_X12_added ⟨Nat.le_of_ble_eq_true rfl, Nat.le_of_ble_eq_true rfl⟩ ⟨Nat.zero_le _, Nat.zero_le _⟩ rfl rfl (hw_le ad [] rfl (Nat.le_of_ble_eq_true rfl)) dX12_swap_23 (kkI (fun t6 S5 H locs rt6 h G => ?_))
    refine gx_goto (tgt := 30) C dX12_swap_26 (by decide) ?_
    exact gx_iret C G hret rt6 h dX12_swap_30
def PT_X12_fence (V : Vt) (o : Nat) (x1 : Int) (S : Me) (Q : Int → Me → Prop) : Prop := ∀ S1 : Me, S1 = sI S o 0 0 → (((isin x1 0 3) = 0 → Q (-1) S1) ∧ (¬ (isin x1 0 3) = 0 → PT_X12_added V o 4 x1 (-2) 0 0 S1 (fun t4 S3 => Q t4 S3)))
theorem hd_X12_fence : yX12_fence.cls ≠ "java/lang/invoke/MethodHandle" ∧ yX12_fence.cls ≠ "java/lang/invoke/VarHandle" ∧ (parseMethodDescriptor yX12_fence.desc).map (fun d => d.parameters.length) = some 1 := by decide +kernel
set_option maxHeartbeats 4000000 in
set_option maxRecDepth 100000 in
theorem c_X12_fence (l : Launch) (D : va_G) (cy : ClassId × ClassId × ClassId × ClassId) (ad : Nat → Nat) {V : Vt} {S : Me} {o : Nat} {x1 : Int} (hV : fX12 V o) (rx1 : rng x1) {Q : Int → Me → Prop} (h : PT_X12_fence V o x1 S Q) : KM l D cy yX12_fence cX12_fence 2 (Option.some Jvm.ClassFile.FieldType.int) 2 47 ad V S [.inr (some o), .inl x1] (qI Q) := by
  refine KM.of (by decide) rfl (Nat.le_of_ble_eq_true rfl) (own := RX12) (fun p e s m args below meth c A ls H locs eA C hret hml hmn hl G => ?_)
  have hl : lo ad ls [some (.inr (some o)), some (.inl x1)] := hl
  clear eA
  unfold PT_X12_fence at h
  refine gx_aload_n C hl dX12_fence_0 rfl ?_
  refine gx_iconst C dX12_fence_1 ?_
  refine gx_putI C G rfl (fX12_o hV) (fo11_0 (fX12_c hV)) (show rng 0 by decide) uw_955 (fun _ h9 => h9) dX12_fence_2 (fun H locs G => ?_)
  obtain ⟨S1, eS1⟩ : ∃ q9 : Me, q9 = sI S o 0 0 := ⟨_, rfl⟩
  have h := h S1 eS1
  rw [← eS1] at G
  refine gx_iload_n C hl dX12_fence_5 rfl ?_
  refine gx_i2l C rx1 dX12_fence_6 ?_
  refine gx_lconst (x := 0) C (by decide) dX12_fence_7 ?_
  refine gx_ldc2 (n := 3) C uw_1138 dX12_fence_8 ?_
  refine gx_isIn C G hl hml rx1 (show rng 0 by decide) (show rng 3 by decide) uw_1115 ⟨Nat.le_of_ble_eq_true rfl, Nat.le_of_ble_eq_true rfl⟩ ⟨Nat.zero_le _, Nat.zero_le _⟩ (hw_le ad [] rfl (Nat.le_of_ble_eq_true rfl)) dX12_fence_11 ?_
  refine gx_if_eq (tgt := 30) C (isin_r _ _ _) dX12_fence_14 (by decide) (fun c2 => ?_) (fun c2 => ?_)
  · have h := h.1 c2
    refine gx_iconst C dX12_fence_30 ?_
    exact gx_iret C G hret (show rng (-1) by decide) h dX12_fence_31
  · have h := h.2 c2
    refine gx_aload_n C hl dX12_fence_17 rfl ?_
    refine gx_iconst C dX12_fence_18 ?_
    refine gx_iload_n C hl dX12_fence_19 rfl ?_
    refine gx_bipush C dX12_fence_20 (by decide) ?_
    refine gx_iconst C dX12_fence_22 ?_
    refine gx_iconst C dX12_fence_23 ?_
    refine gx_callV C G hl hml (c_X12_added l D cy ad hV (show rng 4 by decide) rx1 (show rng (-2) by decide) (show rng 0 by decide) (show rng 0 by decide) h) rfl (fX12_o hV) (by rw [(fX12_c hV)]; rfl) (by rw [(fX12_c hV)]; decide) rfl uw_1144 uw_1141 uw_1143 up_16 uw_9 hd_X12_added ⟨Nat.le_of_ble_eq_true rfl, Nat.le_of_ble_eq_true rfl⟩ ⟨Nat.zero_le _, Nat.zero_le _⟩ rfl rfl (hw_le ad [] rfl (Nat.le_of_ble_eq_true rfl)) dX12_fence_24 (kkI (fun t4 S3 H locs rt4 h G => ?_))
    refine gx_goto (tgt := 31) C dX12_fence_27 (by decide) ?_
    exact gx_iret C G hret rt4 h dX12_fence_31
def PT_X12_waits (V : Vt) (o : Nat) (x1 : Int) (S : Me) (Q : Int → Me → Prop) : Prop := (0 ≤ x1 ∧ x1 < 400) ∧ ((¬ (S.1 (o + 10) (Int.toNat x1)) = 0 → Q 0 S) ∧ ((S.1 (o + 10) (Int.toNat x1)) = 0 → Q 1 S))
theorem hd_X12_waits : yX12_waits.cls ≠ "java/lang/invoke/MethodHandle" ∧ yX12_waits.cls ≠ "java/lang/invoke/VarHandle" ∧ (parseMethodDescriptor yX12_waits.desc).map (fun d => d.parameters.length) = some 1 := by decide +kernel
set_option maxHeartbeats 4000000 in
set_option maxRecDepth 100000 in
theorem c_X12_waits (l : Launch) (D : va_G) (cy : ClassId × ClassId × ClassId × ClassId) (ad : Nat → Nat) {V : Vt} {S : Me} {o : Nat} {x1 : Int} (hV : fX12 V o) (rx1 : rng x1) {Q : Int → Me → Prop} (h : PT_X12_waits V o x1 S Q) : KM l D cy yX12_waits cX12_waits 2 (Option.some Jvm.ClassFile.FieldType.boolean) 0 0 ad V S [.inr (some o), .inl x1] (qI Q) := by
  refine KM.of (by decide) rfl (Nat.le_of_ble_eq_true rfl) (own := RX12) (fun p e s m args below meth c A ls H locs eA C hret hml hmn hl G => ?_)
  have hl : lo ad ls [some (.inr (some o)), some (.inl x1)] := hl
  clear eA
  unfold PT_X12_waits at h
  refine gx_aload_n C hl dX12_waits_0 rfl ?_
  refine gx_getF C G rfl (fX12_o hV) (fo11_21 (fX12_c hV)) (fX12_done hV) uw_976 (fun _ h9 => h9) dX12_waits_1 ?_
  refine gx_iload_n C hl dX12_waits_4 rfl ?_
  obtain ⟨h1, h⟩ := h
  refine gx_iald C G rfl (fX12_done_l hV) (fX12_done_t hV) rx1 h1.1 (ixl (fX12_done_n hV) h1.2) dX12_waits_5 ?_
  have r2 := G.r (o + 10) (Int.toNat x1)
  refine gx_if_ne (tgt := 13) C r2 dX12_waits_6 (by decide) (fun c3 => ?_) (fun c3 => ?_)
  · have h := h.1 c3
    refine gx_iconst C dX12_waits_13 ?_
    exact gx_zret C G hret (Or.inl rfl) h dX12_waits_14
  · have h := h.2 c3
    refine gx_iconst C dX12_waits_9 ?_
    refine gx_goto (tgt := 14) C dX12_waits_10 (by decide) ?_
    exact gx_zret C G hret (Or.inr rfl) h dX12_waits_14
def B_X12_isHeld_143 (V : Vt) (o : Nat) (x1 : Int) (y2 : Int) (S : Me) (Q : Int → Me → Prop) : Prop := (y2 = 0 ∨ y2 = 1) ∧ Q y2 S
def B_X12_isHeld_136 (V : Vt) (o : Nat) (x1 : Int) (K4 : Int → Int → Me → Prop) (y3 : Int) (w0 : Int) (S : Me) (Q : Int → Me → Prop) : Prop := (rng (y3 + 1)) ∧ K4 w0 (y3 + 1) S
def B_X12_isHeld_131 (V : Vt) (o : Nat) (x1 : Int) (K4 : Int → Int → Me → Prop) (y3 : Int) (S : Me) (Q : Int → Me → Prop) : Prop := B_X12_isHeld_136 V o x1 K4 y3 1 S Q
def B_X12_isHeld_135 (V : Vt) (o : Nat) (x1 : Int) (K4 : Int → Int → Me → Prop) (y3 : Int) (S : Me) (Q : Int → Me → Prop) : Prop := B_X12_isHeld_136 V o x1 K4 y3 0 S Q
def B_X12_isHeld_107 (V : Vt) (o : Nat) (x1 : Int) (K4 : Int → Int → Me → Prop) (y2 : Int) (y3 : Int) (y4 : Int) (w0 : Int) (S : Me) (Q : Int → Me → Prop) : Prop := ((¬ y2 = 0 → B_X12_isHeld_131 V o x1 K4 y3 S Q) ∧ (y2 = 0 → PT_X12_waits V o y3 S (fun t5 S4 => ((t5 = 0 → B_X12_isHeld_135 V o x1 K4 y3 S4 Q) ∧ (¬ t5 = 0 → ((¬ y4 = 0 → B_X12_isHeld_131 V o x1 K4 y3 S4 Q) ∧ (y4 = 0 → ((w0 = 0 → B_X12_isHeld_135 V o x1 K4 y3 S4 Q) ∧ (¬ w0 = 0 → B_X12_isHeld_131 V o x1 K4 y3 S4 Q)))))))))
def B_X12_isHeld_106 (V : Vt) (o : Nat) (x1 : Int) (K4 : Int → Int → Me → Prop) (y2 : Int) (y3 : Int) (y4 : Int) (S : Me) (Q : Int → Me → Prop) : Prop := B_X12_isHeld_107 V o x1 K4 y2 y3 y4 0 S Q
def B_X12_isHeld_102 (V : Vt) (o : Nat) (x1 : Int) (K4 : Int → Int → Me → Prop) (y2 : Int) (y3 : Int) (y4 : Int) (S : Me) (Q : Int → Me → Prop) : Prop := B_X12_isHeld_107 V o x1 K4 y2 y3 y4 1 S Q
def B_X12_isHeld_47 (V : Vt) (o : Nat) (x1 : Int) (K4 : Int → Int → Me → Prop) (y2 : Int) (y3 : Int) (w0 : Int) (S : Me) (Q : Int → Me → Prop) : Prop := (0 ≤ y3 ∧ y3 < 400) ∧ (((S.1 (o + 4) (Int.toNat y3)) = 4 → B_X12_isHeld_106 V o x1 K4 y2 y3 w0 S Q) ∧ (¬ (S.1 (o + 4) (Int.toNat y3)) = 4 → (0 ≤ x1 ∧ x1 < 400) ∧ (((S.1 (o + 4) (Int.toNat x1)) = 4 → B_X12_isHeld_106 V o x1 K4 y2 y3 w0 S Q) ∧ (¬ (S.1 (o + 4) (Int.toNat x1)) = 4 → (0 ≤ y3 ∧ y3 < 400) ∧ (0 ≤ x1 ∧ x1 < 400) ∧ ((¬ (S.1 (o + 6) (Int.toNat y3)) = (S.1 (o + 6) (Int.toNat x1)) → B_X12_isHeld_106 V o x1 K4 y2 y3 w0 S Q) ∧ ((S.1 (o + 6) (Int.toNat y3)) = (S.1 (o + 6) (Int.toNat x1)) → (0 ≤ y3 ∧ y3 < 400) ∧ ((¬ (S.1 (o + 4) (Int.toNat y3)) = 0 → B_X12_isHeld_102 V o x1 K4 y2 y3 w0 S Q) ∧ ((S.1 (o + 4) (Int.toNat y3)) = 0 → (0 ≤ x1 ∧ x1 < 400) ∧ (((S.1 (o + 4) (Int.toNat x1)) = 0 → B_X12_isHeld_106 V o x1 K4 y2 y3 w0 S Q) ∧ (¬ (S.1 (o + 4) (Int.toNat x1)) = 0 → B_X12_isHeld_102 V o x1 K4 y2 y3 w0 S Q))))))))))
def B_X12_isHeld_46 (V : Vt) (o : Nat) (x1 : Int) (K4 : Int → Int → Me → Prop) (y2 : Int) (y3 : Int) (S : Me) (Q : Int → Me → Prop) : Prop := B_X12_isHeld_47 V o x1 K4 y2 y3 0 S Q
def B_X12_isHeld_4 (V : Vt) (o : Nat) (x1 : Int) (Q : Int → Me → Prop) : Nat → (Int → Int → Me → Prop)
  | 0 => fun _ _ _ => False
  | n + 1 => fun y2 y3 S => ((x1 ≤ y3 → B_X12_isHeld_143 V o x1 y2 S Q) ∧ (¬ x1 ≤ y3 → PT_X12_waits V o x1 S (fun t28 S27 => ((t28 = 0 → B_X12_isHeld_143 V o x1 y2 S27 Q) ∧ (¬ t28 = 0 → (0 ≤ y3 ∧ y3 < 400) ∧ ((¬ (S27.1 (o + 4) (Int.toNat y3)) = 4 → B_X12_isHeld_46 V o x1 (B_X12_isHeld_4 V o x1 Q n) y2 y3 S27 Q) ∧ ((S27.1 (o + 4) (Int.toNat y3)) = 4 → (0 ≤ y3 ∧ y3 < 400) ∧ (0 ≤ x1 ∧ x1 < 400) ∧ ((¬ (S27.1 (o + 5) (Int.toNat y3)) = (S27.1 (o + 5) (Int.toNat x1)) → B_X12_isHeld_46 V o x1 (B_X12_isHeld_4 V o x1 Q n) y2 y3 S27 Q) ∧ ((S27.1 (o + 5) (Int.toNat y3)) = (S27.1 (o + 5) (Int.toNat x1)) → B_X12_isHeld_47 V o x1 (B_X12_isHeld_4 V o x1 Q n) y2 y3 1 S27 Q)))))))))
def PT_X12_isHeld (V : Vt) (o : Nat) (x1 : Int) (S : Me) (Q : Int → Me → Prop) : Prop := (∃ n9 : Nat, B_X12_isHeld_4 V o x1 Q n9 0 0 S)
theorem hd_X12_isHeld : yX12_isHeld.cls ≠ "java/lang/invoke/MethodHandle" ∧ yX12_isHeld.cls ≠ "java/lang/invoke/VarHandle" ∧ (parseMethodDescriptor yX12_isHeld.desc).map (fun d => d.parameters.length) = some 1 := by decide +kernel
set_option maxHeartbeats 4000000 in
set_option maxRecDepth 100000 in
theorem c_X12_isHeld (l : Launch) (D : va_G) (cy : ClassId × ClassId × ClassId × ClassId) (ad : Nat → Nat) {V : Vt} {S : Me} {o : Nat} {x1 : Int} (hV : fX12 V o) (rx1 : rng x1) {Q : Int → Me → Prop} (h : PT_X12_isHeld V o x1 S Q) : KM l D cy yX12_isHeld cX12_isHeld 6 (Option.some Jvm.ClassFile.FieldType.boolean) 1 21 ad V S [.inr (some o), .inl x1] (qI Q) := by
  refine KM.of (by decide) rfl (Nat.le_of_ble_eq_true rfl) (own := RX12) (fun p e s m args below meth c A ls H locs eA C hret hml hmn hl G => ?_)
  have hl : lo ad ls [some (.inr (some o)), some (.inl x1), none, none, none, none] := hl
  have b143 : ∀ (y2 : Int) (S : Me) (H : Heap) (locs : List Loc) (ls : Array Slot), rng y2 → lo ad ls [some (.inr (some o)), some (.inl x1), some (.inl y2), none, none, none] → Gy D cy A s.heap ad V S H locs → B_X12_isHeld_143 V o x1 y2 S Q → W p l e (rmx 1 21) s m args below meth c H locs 0 0 (qm below D cy ad V A args s (qI Q)) (F0 m 143 ls []) := by
    intro y2 S H locs ls ry2 hl G h
    unfold B_X12_isHeld_143 at h
    refine gx_iload_n C hl dX12_isHeld_143 rfl ?_
    obtain ⟨h1, h⟩ := h
    exact gx_zret C G hret h1 h dX12_isHeld_144
  have b136 : ∀ (K4 : Int → Int → Me → Prop) (hK4 : ∀ (y2 : Int) (y3 : Int) (S : Me) (H : Heap) (locs : List Loc) (ls : Array Slot), rng y2 → rng y3 → lo ad ls [some (.inr (some o)), some (.inl x1), some (.inl y2), some (.inl y3), none, none] → Gy D cy A s.heap ad V S H locs → K4 y2 y3 S → W p l e (rmx 1 21) s m args below meth c H locs 0 0 (qm below D cy ad V A args s (qI Q)) (F0 m 4 ls [])) (y3 : Int) (w0 : Int) (S : Me) (H : Heap) (locs : List Loc) (ls : Array Slot), rng y3 → rng w0 → lo ad ls [some (.inr (some o)), some (.inl x1), none, some (.inl y3), none, none] → Gy D cy A s.heap ad V S H locs → B_X12_isHeld_136 V o x1 K4 y3 w0 S Q → W p l e (rmx 1 21) s m args below meth c H locs 0 0 (qm below D cy ad V A args s (qI Q)) (F0 m 136 ls [vI w0]) := by
    intro K4 hK4 y3 w0 S H locs ls ry3 rw0 hl G h
    unfold B_X12_isHeld_136 at h
    refine gx_istore_n C hl dX12_isHeld_136 (Nat.le_of_ble_eq_true rfl) (PL' := [some (.inr (some o)), some (.inl x1), some (.inl w0), some (.inl y3), none, none]) rfl (fun ls hl => ?_)
    obtain ⟨h2, h⟩ := h
    refine gx_iinc C hl dX12_isHeld_137 rfl (PL' := [some (.inr (some o)), some (.inl x1), some (.inl w0), some (.inl (y3 + 1)), none, none]) rfl (fun ls hl => ?_)
    refine gx_goto (tgt := 4) C dX12_isHeld_140 (by decide) ?_
    exact hK4 w0 (y3 + 1) S H locs ls rw0 h2 hl G h
  have b131 : ∀ (K4 : Int → Int → Me → Prop) (hK4 : ∀ (y2 : Int) (y3 : Int) (S : Me) (H : Heap) (locs : List Loc) (ls : Array Slot), rng y2 → rng y3 → lo ad ls [some (.inr (some o)), some (.inl x1), some (.inl y2), some (.inl y3), none, none] → Gy D cy A s.heap ad V S H locs → K4 y2 y3 S → W p l e (rmx 1 21) s m args below meth c H locs 0 0 (qm below D cy ad V A args s (qI Q)) (F0 m 4 ls [])) (y3 : Int) (S : Me) (H : Heap) (locs : List Loc) (ls : Array Slot), rng y3 → lo ad ls [some (.inr (some o)), some (.inl x1), none, some (.inl y3), none, none] → Gy D cy A s.heap ad V S H locs → B_X12_isHeld_131 V o x1 K4 y3 S Q → W p l e (rmx 1 21) s m args below meth c H locs 0 0 (qm below D cy ad V A args s (qI Q)) (F0 m 131 ls []) := by
    intro K4 hK4 y3 S H locs ls ry3 hl G h
    unfold B_X12_isHeld_131 at h
    refine gx_iconst C dX12_isHeld_131 ?_
    refine gx_goto (tgt := 136) C dX12_isHeld_132 (by decide) ?_
    exact b136 K4 hK4 y3 1 S H locs ls ry3 (show rng 1 by decide) hl G h
  have b135 : ∀ (K4 : Int → Int → Me → Prop) (hK4 : ∀ (y2 : Int) (y3 : Int) (S : Me) (H : Heap) (locs : List Loc) (ls : Array Slot), rng y2 → rng y3 → lo ad ls [some (.inr (some o)), some (.inl x1), some (.inl y2), some (.inl y3), none, none] → Gy D cy A s.heap ad V S H locs → K4 y2 y3 S → W p l e (rmx 1 21) s m args below meth c H locs 0 0 (qm below D cy ad V A args s (qI Q)) (F0 m 4 ls [])) (y3 : Int) (S : Me) (H : Heap) (locs : List Loc) (ls : Array Slot), rng y3 → lo ad ls [some (.inr (some o)), some (.inl x1), none, some (.inl y3), none, none] → Gy D cy A s.heap ad V S H locs → B_X12_isHeld_135 V o x1 K4 y3 S Q → W p l e (rmx 1 21) s m args below meth c H locs 0 0 (qm below D cy ad V A args s (qI Q)) (F0 m 135 ls []) := by
    intro K4 hK4 y3 S H locs ls ry3 hl G h
    unfold B_X12_isHeld_135 at h
    refine gx_iconst C dX12_isHeld_135 ?_
    exact b136 K4 hK4 y3 0 S H locs ls ry3 (show rng 0 by decide) hl G h
  have b107 : ∀ (K4 : Int → Int → Me → Prop) (hK4 : ∀ (y2 : Int) (y3 : Int) (S : Me) (H : Heap) (locs : List Loc) (ls : Array Slot), rng y2 → rng y3 → lo ad ls [some (.inr (some o)), some (.inl x1), some (.inl y2), some (.inl y3), none, none] → Gy D cy A s.heap ad V S H locs → K4 y2 y3 S → W p l e (rmx 1 21) s m args below meth c H locs 0 0 (qm below D cy ad V A args s (qI Q)) (F0 m 4 ls [])) (y2 : Int) (y3 : Int) (y4 : Int) (w0 : Int) (S : Me) (H : Heap) (locs : List Loc) (ls : Array Slot), rng y2 → rng y3 → rng y4 → rng w0 → lo ad ls [some (.inr (some o)), some (.inl x1), some (.inl y2), some (.inl y3), some (.inl y4), none] → Gy D cy A s.heap ad V S H locs → B_X12_isHeld_107 V o x1 K4 y2 y3 y4 w0 S Q → W p l e (rmx 1 21) s m args below meth c H locs 0 0 (qm below D cy ad V A args s (qI Q)) (F0 m 107 ls [vI w0]) := by
    intro K4 hK4 y2 y3 y4 w0 S H locs ls ry2 ry3 ry4 rw0 hl G h
    unfold B_X12_isHeld_107 at h
    refine gx_istore C hl dX12_isHeld_107 (Nat.le_of_ble_eq_true rfl) (PL' := [some (.inr (some o)), some (.inl x1), some (.inl y2), some (.inl y3), some (.inl y4), some (.inl w0)]) rfl (fun ls hl => ?_)
    refine gx_iload_n C hl dX12_isHeld_109 rfl ?_
    refine gx_if_ne (tgt := 131) C ry2 dX12_isHeld_110 (by decide) (fun c3 => ?_) (fun c3 => ?_)
    · have h := h.1 c3
      exact b131 K4 hK4 y3 S H locs ls ry3 (lo_mask (bs := [true, true, false, true, false, false]) hl rfl rfl) G h
    · have h := h.2 c3
      refine gx_aload_n C hl dX12_isHeld_113 rfl ?_
      refine gx_iload_n C hl dX12_isHeld_114 rfl ?_
      refine gx_callV C G hl hml (c_X12_waits l D cy ad hV ry3 h) rfl (fX12_o hV) (by rw [(fX12_c hV)]; rfl) (by rw [(fX12_c hV)]; decide) rfl uw_1181 uw_1178 uw_1180 up_20 uw_9 hd_X12_waits ⟨Nat.le_of_ble_eq_true rfl, Nat.le_of_ble_eq_true rfl⟩ ⟨Nat.zero_le _, Nat.zero_le _⟩ rfl rfl (hw_le ad [] rfl (Nat.le_of_ble_eq_true rfl)) dX12_isHeld_115 (kkI (fun t5 S4 H locs rt5 h G => ?_))
      refine gx_if_eq (tgt := 135) C rt5 dX12_isHeld_118 (by decide) (fun c6 => ?_) (fun c6 => ?_)
      · have h := h.1 c6
        exact b135 K4 hK4 y3 S4 H locs ls ry3 (lo_mask (bs := [true, true, false, true, false, false]) hl rfl rfl) G h
      · have h := h.2 c6
        refine gx_iload C hl dX12_isHeld_121 rfl ?_
        refine gx_if_ne (tgt := 131) C ry4 dX12_isHeld_123 (by decide) (fun c7 => ?_) (fun c7 => ?_)
        · have h := h.1 c7
          exact b131 K4 hK4 y3 S4 H locs ls ry3 (lo_mask (bs := [true, true, false, true, false, false]) hl rfl rfl) G h
        · have h := h.2 c7
          refine gx_iload C hl dX12_isHeld_126 rfl ?_
          refine gx_if_eq (tgt := 135) C rw0 dX12_isHeld_128 (by decide) (fun c8 => ?_) (fun c8 => ?_)
          · have h := h.1 c8
            exact b135 K4 hK4 y3 S4 H locs ls ry3 (lo_mask (bs := [true, true, false, true, false, false]) hl rfl rfl) G h
          · have h := h.2 c8
            exact b131 K4 hK4 y3 S4 H locs ls ry3 (lo_mask (bs := [true, true, false, true, false, false]) hl rfl rfl) G h
  have b106 : ∀ (K4 : Int → Int → Me → Prop) (hK4 : ∀ (y2 : Int) (y3 : Int) (S : Me) (H : Heap) (locs : List Loc) (ls : Array Slot), rng y2 → rng y3 → lo ad ls [some (.inr (some o)), some (.inl x1), some (.inl y2), some (.inl y3), none, none] → Gy D cy A s.heap ad V S H locs → K4 y2 y3 S → W p l e (rmx 1 21) s m args below meth c H locs 0 0 (qm below D cy ad V A args s (qI Q)) (F0 m 4 ls [])) (y2 : Int) (y3 : Int) (y4 : Int) (S : Me) (H : Heap) (locs : List Loc) (ls : Array Slot), rng y2 → rng y3 → rng y4 → lo ad ls [some (.inr (some o)), some (.inl x1), some (.inl y2), some (.inl y3), some (.inl y4), none] → Gy D cy A s.heap ad V S H locs → B_X12_isHeld_106 V o x1 K4 y2 y3 y4 S Q → W p l e (rmx 1 21) s m args below meth c H locs 0 0 (qm below D cy ad V A args s (qI Q)) (F0 m 106 ls []) := by
    intro K4 hK4 y2 y3 y4 S H locs ls ry2 ry3 ry4 hl G h
    unfold B_X12_isHeld_106 at h
    refine gx_iconst C dX12_isHeld_106 ?_
    exact b107 K4 hK4 y2 y3 y4 0 S H locs ls ry2 ry3 ry4 (show rng 0 by decide) hl G h
  have b102 : ∀ (K4 : Int → Int → Me → Prop) (hK4 : ∀ (y2 : Int) (y3 : Int) (S : Me) (H : Heap) (locs : List Loc) (ls : Array Slot), rng y2 → rng y3 → lo ad ls [some (.inr (some o)), some (.inl x1), some (.inl y2), some (.inl y3), none, none] → Gy D cy A s.heap ad V S H locs → K4 y2 y3 S → W p l e (rmx 1 21) s m args below meth c H locs 0 0 (qm below D cy ad V A args s (qI Q)) (F0 m 4 ls [])) (y2 : Int) (y3 : Int) (y4 : Int) (S : Me) (H : Heap) (locs : List Loc) (ls : Array Slot), rng y2 → rng y3 → rng y4 → lo ad ls [some (.inr (some o)), some (.inl x1), some (.inl y2), some (.inl y3), some (.inl y4), none] → Gy D cy A s.heap ad V S H locs → B_X12_isHeld_102 V o x1 K4 y2 y3 y4 S Q → W p l e (rmx 1 21) s m args below meth c H locs 0 0 (qm below D cy ad V A args s (qI Q)) (F0 m 102 ls []) := by
    intro K4 hK4 y2 y3 y4 S H locs ls ry2 ry3 ry4 hl G h
    unfold B_X12_isHeld_102 at h
    refine gx_iconst C dX12_isHeld_102 ?_
    refine gx_goto (tgt := 107) C dX12_isHeld_103 (by decide) ?_
    exact b107 K4 hK4 y2 y3 y4 1 S H locs ls ry2 ry3 ry4 (show rng 1 by decide) hl G h
  have b47 : ∀ (K4 : Int → Int → Me → Prop) (hK4 : ∀ (y2 : Int) (y3 : Int) (S : Me) (H : Heap) (locs : List Loc) (ls : Array Slot), rng y2 → rng y3 → lo ad ls [some (.inr (some o)), some (.inl x1), some (.inl y2), some (.inl y3), none, none] → Gy D cy A s.heap ad V S H locs → K4 y2 y3 S → W p l e (rmx 1 21) s m args below meth c H locs 0 0 (qm below D cy ad V A args s (qI Q)) (F0 m 4 ls [])) (y2 : Int) (y3 : Int) (w0 : Int) (S : Me) (H : Heap) (locs : List Loc) (ls : Array Slot), rng y2 → rng y3 → rng w0 → lo ad ls [some (.inr (some o)), some (.inl x1), some (.inl y2), some (.inl y3), none, none] → Gy D cy A s.heap ad V S H locs → B_X12_isHeld_47 V o x1 K4 y2 y3 w0 S Q → W p l e (rmx 1 21) s m args below meth c H locs 0 0 (qm below D cy ad V A args s (qI Q)) (F0 m 47 ls [vI w0]) := by
    intro K4 hK4 y2 y3 w0 S H locs ls ry2 ry3 rw0 hl G h
    unfold B_X12_isHeld_47 at h
    refine gx_istore C hl dX12_isHeld_47 (Nat.le_of_ble_eq_true rfl) (PL' := [some (.inr (some o)), some (.inl x1), some (.inl y2), some (.inl y3), some (.inl w0), none]) rfl (fun ls hl => ?_)
    refine gx_aload_n C hl dX12_isHeld_49 rfl ?_
    refine gx_getF C G rfl (fX12_o hV) (fo11_15 (fX12_c hV)) (fX12_kind hV) uw_970 (fun _ h9 => h9) dX12_isHeld_50 ?_
    refine gx_iload_n C hl dX12_isHeld_53 rfl ?_
    obtain ⟨h9, h⟩ := h
    refine gx_iald C G rfl (fX12_kind_l hV) (fX12_kind_t hV) ry3 h9.1 (ixl (fX12_kind_n hV) h9.2) dX12_isHeld_54 ?_
    have r10 := G.r (o + 4) (Int.toNat y3)
    refine gx_iconst C dX12_isHeld_55 ?_
    refine gx_icmp_eq (tgt := 106) C r10 (show rng 4 by decide) dX12_isHeld_56 (by decide) (fun c11 => ?_) (fun c11 => ?_)
    · have h := h.1 c11
      exact b106 K4 hK4 y2 y3 w0 S H locs ls ry2 ry3 rw0 hl G h
    · have h := h.2 c11
      refine gx_aload_n C hl dX12_isHeld_59 rfl ?_
      refine gx_getF C G rfl (fX12_o hV) (fo11_15 (fX12_c hV)) (fX12_kind hV) uw_970 (fun _ h9 => h9) dX12_isHeld_60 ?_
      refine gx_iload_n C hl dX12_isHeld_63 rfl ?_
      obtain ⟨h12, h⟩ := h
      refine gx_iald C G rfl (fX12_kind_l hV) (fX12_kind_t hV) rx1 h12.1 (ixl (fX12_kind_n hV) h12.2) dX12_isHeld_64 ?_
      have r13 := G.r (o + 4) (Int.toNat x1)
      refine gx_iconst C dX12_isHeld_65 ?_
      refine gx_icmp_eq (tgt := 106) C r13 (show rng 4 by decide) dX12_isHeld_66 (by decide) (fun c14 => ?_) (fun c14 => ?_)
      · have h := h.1 c14
        exact b106 K4 hK4 y2 y3 w0 S H locs ls ry2 ry3 rw0 hl G h
      · have h := h.2 c14
        refine gx_aload_n C hl dX12_isHeld_69 rfl ?_
        refine gx_getF C G rfl (fX12_o hV) (fo11_17 (fX12_c hV)) (fX12_address hV) uw_972 (fun _ h9 => h9) dX12_isHeld_70 ?_
        refine gx_iload_n C hl dX12_isHeld_73 rfl ?_
        obtain ⟨h15, h⟩ := h
        refine gx_iald C G rfl (fX12_address_l hV) (fX12_address_t hV) ry3 h15.1 (ixl (fX12_address_n hV) h15.2) dX12_isHeld_74 ?_
        have r16 := G.r (o + 6) (Int.toNat y3)
        refine gx_aload_n C hl dX12_isHeld_75 rfl ?_
        refine gx_getF C G rfl (fX12_o hV) (fo11_17 (fX12_c hV)) (fX12_address hV) uw_972 (fun _ h9 => h9) dX12_isHeld_76 ?_
        refine gx_iload_n C hl dX12_isHeld_79 rfl ?_
        obtain ⟨h17, h⟩ := h
        refine gx_iald C G rfl (fX12_address_l hV) (fX12_address_t hV) rx1 h17.1 (ixl (fX12_address_n hV) h17.2) dX12_isHeld_80 ?_
        have r18 := G.r (o + 6) (Int.toNat x1)
        refine gx_icmp_ne (tgt := 106) C r16 r18 dX12_isHeld_81 (by decide) (fun c19 => ?_) (fun c19 => ?_)
        · have h := h.1 c19
          exact b106 K4 hK4 y2 y3 w0 S H locs ls ry2 ry3 rw0 hl G h
        · have h := h.2 c19
          refine gx_aload_n C hl dX12_isHeld_84 rfl ?_
          refine gx_getF C G rfl (fX12_o hV) (fo11_15 (fX12_c hV)) (fX12_kind hV) uw_970 (fun _ h9 => h9) dX12_isHeld_85 ?_
          refine gx_iload_n C hl dX12_isHeld_88 rfl ?_
          obtain ⟨h20, h⟩ := h
          refine gx_iald C G rfl (fX12_kind_l hV) (fX12_kind_t hV) ry3 h20.1 (ixl (fX12_kind_n hV) h20.2) dX12_isHeld_89 ?_
          have r21 := G.r (o + 4) (Int.toNat y3)
          refine gx_if_ne (tgt := 102) C r21 dX12_isHeld_90 (by decide) (fun c22 => ?_) (fun c22 => ?_)
          · have h := h.1 c22
            exact b102 K4 hK4 y2 y3 w0 S H locs ls ry2 ry3 rw0 hl G h
          · have h := h.2 c22
            refine gx_aload_n C hl dX12_isHeld_93 rfl ?_
            refine gx_getF C G rfl (fX12_o hV) (fo11_15 (fX12_c hV)) (fX12_kind hV) uw_970 (fun _ h9 => h9) dX12_isHeld_94 ?_
            refine gx_iload_n C hl dX12_isHeld_97 rfl ?_
            obtain ⟨h23, h⟩ := h
            refine gx_iald C G rfl (fX12_kind_l hV) (fX12_kind_t hV) rx1 h23.1 (ixl (fX12_kind_n hV) h23.2) dX12_isHeld_98 ?_
            have r24 := G.r (o + 4) (Int.toNat x1)
            refine gx_if_eq (tgt := 106) C r24 dX12_isHeld_99 (by decide) (fun c25 => ?_) (fun c25 => ?_)
            · have h := h.1 c25
              exact b106 K4 hK4 y2 y3 w0 S H locs ls ry2 ry3 rw0 hl G h
            · have h := h.2 c25
              exact b102 K4 hK4 y2 y3 w0 S H locs ls ry2 ry3 rw0 hl G h
  have b46 : ∀ (K4 : Int → Int → Me → Prop) (hK4 : ∀ (y2 : Int) (y3 : Int) (S : Me) (H : Heap) (locs : List Loc) (ls : Array Slot), rng y2 → rng y3 → lo ad ls [some (.inr (some o)), some (.inl x1), some (.inl y2), some (.inl y3), none, none] → Gy D cy A s.heap ad V S H locs → K4 y2 y3 S → W p l e (rmx 1 21) s m args below meth c H locs 0 0 (qm below D cy ad V A args s (qI Q)) (F0 m 4 ls [])) (y2 : Int) (y3 : Int) (S : Me) (H : Heap) (locs : List Loc) (ls : Array Slot), rng y2 → rng y3 → lo ad ls [some (.inr (some o)), some (.inl x1), some (.inl y2), some (.inl y3), none, none] → Gy D cy A s.heap ad V S H locs → B_X12_isHeld_46 V o x1 K4 y2 y3 S Q → W p l e (rmx 1 21) s m args below meth c H locs 0 0 (qm below D cy ad V A args s (qI Q)) (F0 m 46 ls []) := by
    intro K4 hK4 y2 y3 S H locs ls ry2 ry3 hl G h
    unfold B_X12_isHeld_46 at h
    refine gx_iconst C dX12_isHeld_46 ?_
    exact b47 K4 hK4 y2 y3 0 S H locs ls ry2 ry3 (show rng 0 by decide) hl G h
  have b4 : ∀ (n : Nat) (y2 : Int) (y3 : Int) (S : Me) (H : Heap) (locs : List Loc) (ls : Array Slot), rng y2 → rng y3 → lo ad ls [some (.inr (some o)), some (.inl x1), some (.inl y2), some (.inl y3), none, none] → Gy D cy A s.heap ad V S H locs → B_X12_isHeld_4 V o x1 Q n y2 y3 S → W p l e (rmx 1 21) s m args below meth c H locs 0 0 (qm below D cy ad V A args s (qI Q)) (F0 m 4 ls []) := by
    intro n
    induction n with
    | zero =>
      intro y2 y3 S H locs ls ry2 ry3 hl G h
      exact absurd h id
    | succ n ih =>
      intro y2 y3 S H locs ls ry2 ry3 hl G h
      rw [B_X12_isHeld_4] at h
      refine gx_iload_n C hl dX12_isHeld_4 rfl ?_
      refine gx_iload_n C hl dX12_isHeld_5 rfl ?_
      refine gx_icmp_ge (tgt := 143) C ry3 rx1 dX12_isHeld_6 (by decide) (fun c26 => ?_) (fun c26 => ?_)
      · have h := h.1 c26
        exact b143 y2 S H locs ls ry2 (lo_mask (bs := [true, true, true, false, false, false]) hl rfl rfl) G h
      · have h := h.2 c26
        refine gx_aload_n C hl dX12_isHeld_9 rfl ?_
        refine gx_iload_n C hl dX12_isHeld_10 rfl ?_
        refine gx_callV C G hl hml (c_X12_waits l D cy ad hV rx1 h) rfl (fX12_o hV) (by rw [(fX12_c hV)]; rfl) (by rw [(fX12_c hV)]; decide) rfl uw_1181 uw_1178 uw_1180 up_20 uw_9 hd_X12_waits ⟨Nat.le_of_ble_eq_true rfl, Nat.le_of_ble_eq_true rfl⟩ ⟨Nat.zero_le _, Nat.zero_le _⟩ rfl rfl (hw_le ad [] rfl (Nat.le_of_ble_eq_true rfl)) dX12_isHeld_11 (kkI (fun t28 S27 H locs rt28 h G => ?_))
        refine gx_if_eq (tgt := 143) C rt28 dX12_isHeld_14 (by decide) (fun c29 => ?_) (fun c29 => ?_)
        · have h := h.1 c29
          exact b143 y2 S27 H locs ls ry2 (lo_mask (bs := [true, true, true, false, false, false]) hl rfl rfl) G h
        · have h := h.2 c29
          refine gx_aload_n C hl dX12_isHeld_17 rfl ?_
          refine gx_getF C G rfl (fX12_o hV) (fo11_15 (fX12_c hV)) (fX12_kind hV) uw_970 (fun _ h9 => h9) dX12_isHeld_18 ?_
          refine gx_iload_n C hl dX12_isHeld_21 rfl ?_
          obtain ⟨h30, h⟩ := h
          refine gx_iald C G rfl (fX12_kind_l hV) (fX12_kind_t hV) ry3 h30.1 (ixl (fX12_kind_n hV) h30.2) dX12_isHeld_22 ?_
          have r31 := G.r (o + 4) (Int.toNat y3)
          refine gx_iconst C dX12_isHeld_23 ?_
          refine gx_icmp_ne (tgt := 46) C r31 (show rng 4 by decide) dX12_isHeld_24 (by decide) (fun c32 => ?_) (fun c32 => ?_)
          · have h := h.1 c32
            exact b46 (B_X12_isHeld_4 V o x1 Q n) ih y2 y3 S27 H locs ls ry2 ry3 hl G h
          · have h := h.2 c32
            refine gx_aload_n C hl dX12_isHeld_27 rfl ?_
            refine gx_getF C G rfl (fX12_o hV) (fo11_16 (fX12_c hV)) (fX12_asker hV) uw_971 (fun _ h9 => h9) dX12_isHeld_28 ?_
            refine gx_iload_n C hl dX12_isHeld_31 rfl ?_
            obtain ⟨h33, h⟩ := h
            refine gx_iald C G rfl (fX12_asker_l hV) (fX12_asker_t hV) ry3 h33.1 (ixl (fX12_asker_n hV) h33.2) dX12_isHeld_32 ?_
            have r34 := G.r (o + 5) (Int.toNat y3)
            refine gx_aload_n C hl dX12_isHeld_33 rfl ?_
            refine gx_getF C G rfl (fX12_o hV) (fo11_16 (fX12_c hV)) (fX12_asker hV) uw_971 (fun _ h9 => h9) dX12_isHeld_34 ?_
            refine gx_iload_n C hl dX12_isHeld_37 rfl ?_
            obtain ⟨h35, h⟩ := h
            refine gx_iald C G rfl (fX12_asker_l hV) (fX12_asker_t hV) rx1 h35.1 (ixl (fX12_asker_n hV) h35.2) dX12_isHeld_38 ?_
            have r36 := G.r (o + 5) (Int.toNat x1)
            refine gx_icmp_ne (tgt := 46) C r34 r36 dX12_isHeld_39 (by decide) (fun c37 => ?_) (fun c37 => ?_)
            · have h := h.1 c37
              exact b46 (B_X12_isHeld_4 V o x1 Q n) ih y2 y3 S27 H locs ls ry2 ry3 hl G h
            · have h := h.2 c37
              refine gx_iconst C dX12_isHeld_42 ?_
              refine gx_goto (tgt := 47) C dX12_isHeld_43 (by decide) ?_
              exact b47 (B_X12_isHeld_4 V o x1 Q n) ih y2 y3 1 S27 H locs ls ry2 ry3 (show rng 1 by decide) hl G h
  clear eA
  unfold PT_X12_isHeld at h
  refine gx_iconst C dX12_isHeld_0 ?_
  refine gx_istore_n C hl dX12_isHeld_1 (Nat.le_of_ble_eq_true rfl) (PL' := [some (.inr (some o)), some (.inl x1), some (.inl 0), none, none, none]) rfl (fun ls hl => ?_)
  refine gx_iconst C dX12_isHeld_2 ?_
  refine gx_istore_n C hl dX12_isHeld_3 (Nat.le_of_ble_eq_true rfl) (PL' := [some (.inr (some o)), some (.inl x1), some (.inl 0), some (.inl 0), none, none]) rfl (fun ls hl => ?_)
  obtain ⟨n9, h⟩ := h
  exact b4 n9 0 0 S H locs ls (show rng 0 by decide) (show rng 0 by decide) hl G h
def PT_X12_isOpen (V : Vt) (o : Nat) (x1 : Int) (S : Me) (Q : Int → Me → Prop) : Prop := (0 ≤ x1 ∧ x1 < 400) ∧ PT_X12_bankOf V (S.1 (o + 6) (Int.toNat x1)) S (fun t4 S3 => (0 ≤ t4 ∧ t4 < 4) ∧ (0 ≤ x1 ∧ x1 < 400) ∧ PT_X12_rowOf V (S3.1 (o + 6) (Int.toNat x1)) S3 (fun t10 S9 => ((¬ (S3.1 (o + 2) (Int.toNat t4)) = t10 → Q 0 S9) ∧ ((S3.1 (o + 2) (Int.toNat t4)) = t10 → Q 1 S9))))
theorem hd_X12_isOpen : yX12_isOpen.cls ≠ "java/lang/invoke/MethodHandle" ∧ yX12_isOpen.cls ≠ "java/lang/invoke/VarHandle" ∧ (parseMethodDescriptor yX12_isOpen.desc).map (fun d => d.parameters.length) = some 1 := by decide +kernel
set_option maxHeartbeats 4000000 in
set_option maxRecDepth 100000 in
theorem c_X12_isOpen (l : Launch) (D : va_G) (cy : ClassId × ClassId × ClassId × ClassId) (ad : Nat → Nat) {V : Vt} {S : Me} {o : Nat} {x1 : Int} (hV : fX12 V o) (rx1 : rng x1) {Q : Int → Me → Prop} (h : PT_X12_isOpen V o x1 S Q) : KM l D cy yX12_isOpen cX12_isOpen 2 (Option.some Jvm.ClassFile.FieldType.boolean) 1 20 ad V S [.inr (some o), .inl x1] (qI Q) := by
  refine KM.of (by decide) rfl (Nat.le_of_ble_eq_true rfl) (own := RX12) (fun p e s m args below meth c A ls H locs eA C hret hml hmn hl G => ?_)
  have hl : lo ad ls [some (.inr (some o)), some (.inl x1)] := hl
  clear eA
  unfold PT_X12_isOpen at h
  refine gx_aload_n C hl dX12_isOpen_0 rfl ?_
  refine gx_getF C G rfl (fX12_o hV) (fo11_11 (fX12_c hV)) (fX12_row hV) uw_966 (fun _ h9 => h9) dX12_isOpen_1 ?_
  refine gx_aload_n C hl dX12_isOpen_4 rfl ?_
  refine gx_getF C G rfl (fX12_o hV) (fo11_17 (fX12_c hV)) (fX12_address hV) uw_972 (fun _ h9 => h9) dX12_isOpen_5 ?_
  refine gx_iload_n C hl dX12_isOpen_8 rfl ?_
  obtain ⟨h1, h⟩ := h
  refine gx_iald C G rfl (fX12_address_l hV) (fX12_address_t hV) rx1 h1.1 (ixl (fX12_address_n hV) h1.2) dX12_isOpen_9 ?_
  have r2 := G.r (o + 6) (Int.toNat x1)
  refine gx_callS C G hl hml (c_X12_bankOf l D cy ad r2 h) uw_1236 uw_1234 uw_1235 uw_9 hd_X12_bankOf ⟨Nat.le_of_ble_eq_true rfl, Nat.le_of_ble_eq_true rfl⟩ ⟨Nat.zero_le _, Nat.zero_le _⟩ rfl rfl (hw_le ad [.inr (some (o + 2))] rfl (Nat.le_of_ble_eq_true rfl)) dX12_isOpen_10 (kkI (fun t4 S3 H locs rt4 h G => ?_))
  obtain ⟨h5, h⟩ := h
  refine gx_iald C G rfl (fX12_row_l hV) (fX12_row_t hV) rt4 h5.1 (ixl (fX12_row_n hV) h5.2) dX12_isOpen_13 ?_
  have r6 := G.r (o + 2) (Int.toNat t4)
  refine gx_aload_n C hl dX12_isOpen_14 rfl ?_
  refine gx_getF C G rfl (fX12_o hV) (fo11_17 (fX12_c hV)) (fX12_address hV) uw_972 (fun _ h9 => h9) dX12_isOpen_15 ?_
  refine gx_iload_n C hl dX12_isOpen_18 rfl ?_
  obtain ⟨h7, h⟩ := h
  refine gx_iald C G rfl (fX12_address_l hV) (fX12_address_t hV) rx1 h7.1 (ixl (fX12_address_n hV) h7.2) dX12_isOpen_19 ?_
  have r8 := G.r (o + 6) (Int.toNat x1)
  refine gx_callS C G hl hml (c_X12_rowOf l D cy ad r8 h) uw_1239 uw_1237 uw_1238 uw_9 hd_X12_rowOf ⟨Nat.le_of_ble_eq_true rfl, Nat.le_of_ble_eq_true rfl⟩ ⟨Nat.zero_le _, Nat.zero_le _⟩ rfl rfl (hw_le ad [.inl (S3.1 (o + 2) (Int.toNat t4))] rfl (Nat.le_of_ble_eq_true rfl)) dX12_isOpen_20 (kkI (fun t10 S9 H locs rt10 h G => ?_))
  refine gx_icmp_ne (tgt := 30) C r6 rt10 dX12_isOpen_23 (by decide) (fun c11 => ?_) (fun c11 => ?_)
  · have h := h.1 c11
    refine gx_iconst C dX12_isOpen_30 ?_
    exact gx_zret C G hret (Or.inl rfl) h dX12_isOpen_31
  · have h := h.2 c11
    refine gx_iconst C dX12_isOpen_26 ?_
    refine gx_goto (tgt := 31) C dX12_isOpen_27 (by decide) ?_
    exact gx_zret C G hret (Or.inr rfl) h dX12_isOpen_31
def B_X12_rank_28 (V : Vt) (o : Nat) (x1 : Int) (S : Me) (Q : Int → Me → Prop) : Prop := ((¬ (S.1 o 4) = 1 → (0 ≤ x1 ∧ x1 < 400) ∧ (0 ≤ (S.1 (o + 5) (Int.toNat x1)) ∧ (S.1 (o + 5) (Int.toNat x1)) < 4) ∧ (rng (4 * (S.1 (o + 12) (Int.toNat (S.1 (o + 5) (Int.toNat x1)))))) ∧ (0 ≤ x1 ∧ x1 < 400) ∧ (rng ((4 * (S.1 (o + 12) (Int.toNat (S.1 (o + 5) (Int.toNat x1))))) + (S.1 (o + 5) (Int.toNat x1)))) ∧ Q ((4 * (S.1 (o + 12) (Int.toNat (S.1 (o + 5) (Int.toNat x1))))) + (S.1 (o + 5) (Int.toNat x1))) S) ∧ ((S.1 o 4) = 1 → PT_X12_isOpen V o x1 S (fun t12 S11 => ((t12 = 0 → Q 1 S11) ∧ (¬ t12 = 0 → Q 0 S11)))))
def PT_X12_rank (V : Vt) (o : Nat) (x1 : Int) (S : Me) (Q : Int → Me → Prop) : Prop := (((S.1 o 4) = 0 → Q 0 S) ∧ (¬ (S.1 o 4) = 0 → ((¬ (S.1 o 4) = 1 → B_X12_rank_28 V o x1 S Q) ∧ ((S.1 o 4) = 1 → (((S.1 o 25) < (S.1 o 5) → B_X12_rank_28 V o x1 S Q) ∧ (¬ (S.1 o 25) < (S.1 o 5) → Q 0 S))))))
theorem hd_X12_rank : yX12_rank.cls ≠ "java/lang/invoke/MethodHandle" ∧ yX12_rank.cls ≠ "java/lang/invoke/VarHandle" ∧ (parseMethodDescriptor yX12_rank.desc).map (fun d => d.parameters.length) = some 1 := by decide +kernel
set_option maxHeartbeats 4000000 in
set_option maxRecDepth 100000 in
theorem c_X12_rank (l : Launch) (D : va_G) (cy : ClassId × ClassId × ClassId × ClassId) (ad : Nat → Nat) {V : Vt} {S : Me} {o : Nat} {x1 : Int} (hV : fX12 V o) (rx1 : rng x1) {Q : Int → Me → Prop} (h : PT_X12_rank V o x1 S Q) : KM l D cy yX12_rank cX12_rank 2 (Option.some Jvm.ClassFile.FieldType.int) 2 41 ad V S [.inr (some o), .inl x1] (qI Q) := by
  refine KM.of (by decide) rfl (Nat.le_of_ble_eq_true rfl) (own := RX12) (fun p e s m args below meth c A ls H locs eA C hret hml hmn hl G => ?_)
  have hl : lo ad ls [some (.inr (some o)), some (.inl x1)] := hl
  have b28 : ∀ (S : Me) (H : Heap) (locs : List Loc) (ls : Array Slot), lo ad ls [some (.inr (some o)), some (.inl x1)] → Gy D cy A s.heap ad V S H locs → B_X12_rank_28 V o x1 S Q → W p l e (rmx 2 41) s m args below meth c H locs 0 0 (qm below D cy ad V A args s (qI Q)) (F0 m 28 ls []) := by
    intro S H locs ls hl G h
    unfold B_X12_rank_28 at h
    refine gx_aload_n C hl dX12_rank_28 rfl ?_
    refine gx_getI C G rfl (fX12_o hV) (fo11_4 (fX12_c hV)) uw_959 (fun _ h9 => h9) dX12_rank_29 ?_
    have r1 := G.r o 4
    refine gx_iconst C dX12_rank_32 ?_
    refine gx_icmp_ne (tgt := 52) C r1 (show rng 1 by decide) dX12_rank_33 (by decide) (fun c2 => ?_) (fun c2 => ?_)
    · have h := h.1 c2
      refine gx_iconst C dX12_rank_52 ?_
      refine gx_aload_n C hl dX12_rank_53 rfl ?_
      refine gx_getF C G rfl (fX12_o hV) (fo11_23 (fX12_c hV)) (fX12_doneOf hV) uw_978 (fun _ h9 => h9) dX12_rank_54 ?_
      refine gx_aload_n C hl dX12_rank_57 rfl ?_
      refine gx_getF C G rfl (fX12_o hV) (fo11_16 (fX12_c hV)) (fX12_asker hV) uw_971 (fun _ h9 => h9) dX12_rank_58 ?_
      refine gx_iload_n C hl dX12_rank_61 rfl ?_
      obtain ⟨h3, h⟩ := h
      refine gx_iald C G rfl (fX12_asker_l hV) (fX12_asker_t hV) rx1 h3.1 (ixl (fX12_asker_n hV) h3.2) dX12_rank_62 ?_
      have r4 := G.r (o + 5) (Int.toNat x1)
      obtain ⟨h5, h⟩ := h
      refine gx_iald C G rfl (fX12_doneOf_l hV) (fX12_doneOf_t hV) r4 h5.1 (ixl (fX12_doneOf_n hV) h5.2) dX12_rank_63 ?_
      have r6 := G.r (o + 12) (Int.toNat (S.1 (o + 5) (Int.toNat x1)))
      obtain ⟨h7, h⟩ := h
      refine gx_imul C dX12_rank_64 ?_
      refine gx_aload_n C hl dX12_rank_65 rfl ?_
      refine gx_getF C G rfl (fX12_o hV) (fo11_16 (fX12_c hV)) (fX12_asker hV) uw_971 (fun _ h9 => h9) dX12_rank_66 ?_
      refine gx_iload_n C hl dX12_rank_69 rfl ?_
      obtain ⟨h8, h⟩ := h
      refine gx_iald C G rfl (fX12_asker_l hV) (fX12_asker_t hV) rx1 h8.1 (ixl (fX12_asker_n hV) h8.2) dX12_rank_70 ?_
      have r9 := G.r (o + 5) (Int.toNat x1)
      obtain ⟨h10, h⟩ := h
      refine gx_iadd C dX12_rank_71 ?_
      exact gx_iret C G hret h10 h dX12_rank_72
    · have h := h.2 c2
      refine gx_aload_n C hl dX12_rank_36 rfl ?_
      refine gx_iload_n C hl dX12_rank_37 rfl ?_
      refine gx_callV C G hl hml (c_X12_isOpen l D cy ad hV rx1 h) rfl (fX12_o hV) (by rw [(fX12_c hV)]; rfl) (by rw [(fX12_c hV)]; decide) rfl uw_1233 uw_1230 uw_1232 up_33 uw_9 hd_X12_isOpen ⟨Nat.le_of_ble_eq_true rfl, Nat.le_of_ble_eq_true rfl⟩ ⟨Nat.zero_le _, Nat.zero_le _⟩ rfl rfl (hw_le ad [] rfl (Nat.le_of_ble_eq_true rfl)) dX12_rank_38 (kkI (fun t12 S11 H locs rt12 h G => ?_))
      refine gx_if_eq (tgt := 48) C rt12 dX12_rank_41 (by decide) (fun c13 => ?_) (fun c13 => ?_)
      · have h := h.1 c13
        refine gx_iconst C dX12_rank_48 ?_
        refine gx_goto (tgt := 72) C dX12_rank_49 (by decide) ?_
        exact gx_iret C G hret (show rng 1 by decide) h dX12_rank_72
      · have h := h.2 c13
        refine gx_iconst C dX12_rank_44 ?_
        refine gx_goto (tgt := 72) C dX12_rank_45 (by decide) ?_
        exact gx_iret C G hret (show rng 0 by decide) h dX12_rank_72
  clear eA
  unfold PT_X12_rank at h
  refine gx_aload_n C hl dX12_rank_0 rfl ?_
  refine gx_getI C G rfl (fX12_o hV) (fo11_4 (fX12_c hV)) uw_959 (fun _ h9 => h9) dX12_rank_1 ?_
  have r14 := G.r o 4
  refine gx_if_eq (tgt := 26) C r14 dX12_rank_4 (by decide) (fun c15 => ?_) (fun c15 => ?_)
  · have h := h.1 c15
    refine gx_iconst C dX12_rank_26 ?_
    exact gx_iret C G hret (show rng 0 by decide) h dX12_rank_27
  · have h := h.2 c15
    refine gx_aload_n C hl dX12_rank_7 rfl ?_
    refine gx_getI C G rfl (fX12_o hV) (fo11_4 (fX12_c hV)) uw_959 (fun _ h9 => h9) dX12_rank_8 ?_
    have r16 := G.r o 4
    refine gx_iconst C dX12_rank_11 ?_
    refine gx_icmp_ne (tgt := 28) C r16 (show rng 1 by decide) dX12_rank_12 (by decide) (fun c17 => ?_) (fun c17 => ?_)
    · have h := h.1 c17
      exact b28 S H locs ls hl G h
    · have h := h.2 c17
      refine gx_aload_n C hl dX12_rank_15 rfl ?_
      refine gx_getI C G rfl (fX12_o hV) (fo11_25 (fX12_c hV)) uw_980 (fun _ h9 => h9) dX12_rank_16 ?_
      have r18 := G.r o 25
      refine gx_aload_n C hl dX12_rank_19 rfl ?_
      refine gx_getI C G rfl (fX12_o hV) (fo11_5 (fX12_c hV)) uw_960 (fun _ h9 => h9) dX12_rank_20 ?_
      have r19 := G.r o 5
      refine gx_icmp_lt (tgt := 28) C r18 r19 dX12_rank_23 (by decide) (fun c20 => ?_) (fun c20 => ?_)
      · have h := h.1 c20
        exact b28 S H locs ls hl G h
      · have h := h.2 c20
        refine gx_iconst C dX12_rank_26 ?_
        exact gx_iret C G hret (show rng 0 by decide) h dX12_rank_27
def B_X12_findOrder_102 (V : Vt) (o : Nat) (K7 : Int → Me → Prop) (y1 : Int) (S : Me) (Q : Me → Prop) : Prop := (rng (y1 + 1)) ∧ K7 (y1 + 1) S
def B_X12_findOrder_85 (V : Vt) (o : Nat) (K7 : Int → Me → Prop) (y1 : Int) (y2 : Int) (S : Me) (Q : Me → Prop) : Prop := (0 ≤ y2 ∧ y2 < 12) ∧ ∀ S3 : Me, S3 = sI S (o + 22) (Int.toNat y2) y1 → (rng ((S3.1 o 39) + 1)) ∧ ∀ S6 : Me, S6 = sI S3 o 39 ((S3.1 o 39) + 1) → B_X12_findOrder_102 V o K7 y1 S6 Q
def B_X12_findOrder_41 (V : Vt) (o : Nat) (K7 : Int → Me → Prop) (Q : Me → Prop) : Nat → (Int → Int → Me → Prop)
  | 0 => fun _ _ _ => False
  | n + 1 => fun y1 y2 S => ((y2 ≤ 0 → B_X12_findOrder_85 V o K7 y1 y2 S Q) ∧ (¬ y2 ≤ 0 → (rng (y2 - 1)) ∧ (0 ≤ (y2 - 1) ∧ (y2 - 1) < 12) ∧ PT_X12_rank V o (S.1 (o + 22) (Int.toNat (y2 - 1))) S (fun t12 S11 => PT_X12_rank V o y1 S11 (fun t14 S13 => ((t12 ≤ t14 → B_X12_findOrder_85 V o K7 y1 y2 S13 Q) ∧ (¬ t12 ≤ t14 → (rng (y2 - 1)) ∧ (0 ≤ (y2 - 1) ∧ (y2 - 1) < 12) ∧ (0 ≤ y2 ∧ y2 < 12) ∧ ∀ S20 : Me, S20 = sI S13 (o + 22) (Int.toNat y2) (S13.1 (o + 22) (Int.toNat (y2 - 1))) → (rng (y2 + (-1))) ∧ B_X12_findOrder_41 V o K7 Q n y1 (y2 + (-1)) S20))))))
def B_X12_findOrder_7 (V : Vt) (o : Nat) (Q : Me → Prop) : Nat → (Int → Me → Prop)
  | 0 => fun _ _ => False
  | n + 1 => fun y1 S => (((S.1 o 13) ≤ y1 → Q S) ∧ (¬ (S.1 o 13) ≤ y1 → PT_X12_waits V o y1 S (fun t25 S24 => ((t25 = 0 → B_X12_findOrder_102 V o (B_X12_findOrder_7 V o Q n) y1 S24 Q) ∧ (¬ t25 = 0 → (0 ≤ y1 ∧ y1 < 400) ∧ ((¬ (S24.1 (o + 4) (Int.toNat y1)) = 4 → (∃ n9 : Nat, B_X12_findOrder_41 V o (B_X12_findOrder_7 V o Q n) Q n9 y1 (S24.1 o 39) S24)) ∧ ((S24.1 (o + 4) (Int.toNat y1)) = 4 → B_X12_findOrder_102 V o (B_X12_findOrder_7 V o Q n) y1 S24 Q)))))))
def PT_X12_findOrder (V : Vt) (o : Nat) (S : Me) (Q : Me → Prop) : Prop := ∀ S31 : Me, S31 = sI S o 39 0 → (∃ n9 : Nat, B_X12_findOrder_7 V o Q n9 0 S31)
theorem hd_X12_findOrder : yX12_findOrder.cls ≠ "java/lang/invoke/MethodHandle" ∧ yX12_findOrder.cls ≠ "java/lang/invoke/VarHandle" ∧ (parseMethodDescriptor yX12_findOrder.desc).map (fun d => d.parameters.length) = some 0 := by decide +kernel
set_option maxHeartbeats 4000000 in
set_option maxRecDepth 100000 in
theorem c_X12_findOrder (l : Launch) (D : va_G) (cy : ClassId × ClassId × ClassId × ClassId) (ad : Nat → Nat) {V : Vt} {S : Me} {o : Nat} (hV : fX12 V o) {Q : Me → Prop} (h : PT_X12_findOrder V o S Q) : KM l D cy yX12_findOrder cX12_findOrder 3 (Option.none : Option Jvm.ClassFile.FieldType) 3 62 ad V S [.inr (some o)] (qV Q) := by
  refine KM.of (by decide) rfl (Nat.le_of_ble_eq_true rfl) (own := RX12) (fun p e s m args below meth c A ls H locs eA C hret hml hmn hl G => ?_)
  have hl : lo ad ls [some (.inr (some o)), none, none] := hl
  have b102 : ∀ (K7 : Int → Me → Prop) (hK7 : ∀ (y1 : Int) (S : Me) (H : Heap) (locs : List Loc) (ls : Array Slot), rng y1 → lo ad ls [some (.inr (some o)), some (.inl y1), none] → Gy D cy A s.heap ad V S H locs → K7 y1 S → W p l e (rmx 3 62) s m args below meth c H locs 0 0 (qm below D cy ad V A args s (qV Q)) (F0 m 7 ls [])) (y1 : Int) (S : Me) (H : Heap) (locs : List Loc) (ls : Array Slot), rng y1 → lo ad ls [some (.inr (some o)), some (.inl y1), none] → Gy D cy A s.heap ad V S H locs → B_X12_findOrder_102 V o K7 y1 S Q → W p l e (rmx 3 62) s m args below meth c H locs 0 0 (qm below D cy ad V A args s (qV Q)) (F0 m 102 ls []) := by
    intro K7 hK7 y1 S H locs ls ry1 hl G h
    unfold B_X12_findOrder_102 at h
    obtain ⟨h1, h⟩ := h
    refine gx_iinc C hl dX12_findOrder_102 rfl (PL' := [some (.inr (some o)), some (.inl (y1 + 1)), none]) rfl (fun ls hl => ?_)
    refine gx_goto (tgt := 7) C dX12_findOrder_105 (by decide) ?_
    exact hK7 (y1 + 1) S H locs ls h1 hl G h
  have b85 : ∀ (K7 : Int → Me → Prop) (hK7 : ∀ (y1 : Int) (S : Me) (H : Heap) (locs : List Loc) (ls : Array Slot), rng y1 → lo ad ls [some (.inr (some o)), some (.inl y1), none] → Gy D cy A s.heap ad V S H locs → K7 y1 S → W p l e (rmx 3 62) s m args below meth c H locs 0 0 (qm below D cy ad V A args s (qV Q)) (F0 m 7 ls [])) (y1 : Int) (y2 : Int) (S : Me) (H : Heap) (locs : List Loc) (ls : Array Slot), rng y1 → rng y2 → lo ad ls [some (.inr (some o)), some (.inl y1), some (.inl y2)] → Gy D cy A s.heap ad V S H locs → B_X12_findOrder_85 V o K7 y1 y2 S Q → W p l e (rmx 3 62) s m args below meth c H locs 0 0 (qm below D cy ad V A args s (qV Q)) (F0 m 85 ls []) := by
    intro K7 hK7 y1 y2 S H locs ls ry1 ry2 hl G h
    unfold B_X12_findOrder_85 at h
    refine gx_aload_n C hl dX12_findOrder_85 rfl ?_
    refine gx_getF C G rfl (fX12_o hV) (fo11_38 (fX12_c hV)) (fX12_row0 hV) uw_993 (fun _ h9 => h9) dX12_findOrder_86 ?_
    refine gx_iload_n C hl dX12_findOrder_89 rfl ?_
    refine gx_iload_n C hl dX12_findOrder_90 rfl ?_
    obtain ⟨h2, h⟩ := h
    refine gx_iast C G rfl (fX12_row0_l hV) (fX12_row0_t hV) ry2 ry1 h2.1 (ixl (fX12_row0_n hV) h2.2) dX12_findOrder_91 (fun H locs G => ?_)
    obtain ⟨S3, eS3⟩ : ∃ q9 : Me, q9 = sI S (o + 22) (Int.toNat y2) y1 := ⟨_, rfl⟩
    have h := h S3 eS3
    rw [← eS3] at G
    refine gx_aload_n C hl dX12_findOrder_92 rfl ?_
    refine gx_dupR C dX12_findOrder_93 ?_
    refine gx_getI C G rfl (fX12_o hV) (fo11_39 (fX12_c hV)) uw_994 (fun _ h9 => h9) dX12_findOrder_94 ?_
    have r4 := G.r o 39
    refine gx_iconst C dX12_findOrder_97 ?_
    obtain ⟨h5, h⟩ := h
    refine gx_iadd C dX12_findOrder_98 ?_
    refine gx_putI C G rfl (fX12_o hV) (fo11_39 (fX12_c hV)) h5 uw_994 (fun _ h9 => h9) dX12_findOrder_99 (fun H locs G => ?_)
    obtain ⟨S6, eS6⟩ : ∃ q9 : Me, q9 = sI S3 o 39 ((S3.1 o 39) + 1) := ⟨_, rfl⟩
    have h := h S6 eS6
    rw [← eS6] at G
    exact b102 K7 hK7 y1 S6 H locs ls ry1 (lo_mask (bs := [true, true, false]) hl rfl rfl) G h
  have b41 : ∀ (K7 : Int → Me → Prop) (hK7 : ∀ (y1 : Int) (S : Me) (H : Heap) (locs : List Loc) (ls : Array Slot), rng y1 → lo ad ls [some (.inr (some o)), some (.inl y1), none] → Gy D cy A s.heap ad V S H locs → K7 y1 S → W p l e (rmx 3 62) s m args below meth c H locs 0 0 (qm below D cy ad V A args s (qV Q)) (F0 m 7 ls [])) (n : Nat) (y1 : Int) (y2 : Int) (S : Me) (H : Heap) (locs : List Loc) (ls : Array Slot), rng y1 → rng y2 → lo ad ls [some (.inr (some o)), some (.inl y1), some (.inl y2)] → Gy D cy A s.heap ad V S H locs → B_X12_findOrder_41 V o K7 Q n y1 y2 S → W p l e (rmx 3 62) s m args below meth c H locs 0 0 (qm below D cy ad V A args s (qV Q)) (F0 m 41 ls []) := by
    intro K7 hK7 n
    induction n with
    | zero =>
      intro y1 y2 S H locs ls ry1 ry2 hl G h
      exact absurd h id
    | succ n ih =>
      intro y1 y2 S H locs ls ry1 ry2 hl G h
      rw [B_X12_findOrder_41] at h
      refine gx_iload_n C hl dX12_findOrder_41 rfl ?_
      refine gx_if_le (tgt := 85) C ry2 dX12_findOrder_42 (by decide) (fun c7 => ?_) (fun c7 => ?_)
      · have h := h.1 c7
        exact b85 K7 hK7 y1 y2 S H locs ls ry1 ry2 hl G h
      · have h := h.2 c7
        refine gx_aload_n C hl dX12_findOrder_45 rfl ?_
        refine gx_aload_n C hl dX12_findOrder_46 rfl ?_
        refine gx_getF C G rfl (fX12_o hV) (fo11_38 (fX12_c hV)) (fX12_row0 hV) uw_993 (fun _ h9 => h9) dX12_findOrder_47 ?_
        refine gx_iload_n C hl dX12_findOrder_50 rfl ?_
        refine gx_iconst C dX12_findOrder_51 ?_
        obtain ⟨h8, h⟩ := h
        refine gx_isub C dX12_findOrder_52 ?_
        obtain ⟨h9, h⟩ := h
        refine gx_iald C G rfl (fX12_row0_l hV) (fX12_row0_t hV) h8 h9.1 (ixl (fX12_row0_n hV) h9.2) dX12_findOrder_53 ?_
        have r10 := G.r (o + 22) (Int.toNat (y2 - 1))
        refine gx_callV C G hl hml (c_X12_rank l D cy ad hV r10 h) rfl (fX12_o hV) (by rw [(fX12_c hV)]; rfl) (by rw [(fX12_c hV)]; decide) rfl uw_1229 uw_1226 uw_1228 up_32 uw_9 hd_X12_rank ⟨Nat.le_of_ble_eq_true rfl, Nat.le_of_ble_eq_true rfl⟩ ⟨Nat.zero_le _, Nat.zero_le _⟩ rfl rfl (hw_le ad [] rfl (Nat.le_of_ble_eq_true rfl)) dX12_findOrder_54 (kkI (fun t12 S11 H locs rt12 h G => ?_))
        refine gx_aload_n C hl dX12_findOrder_57 rfl ?_
        refine gx_iload_n C hl dX12_findOrder_58 rfl ?_
        refine gx_callV C G hl hml (c_X12_rank l D cy ad hV ry1 h) rfl (fX12_o hV) (by rw [(fX12_c hV)]; rfl) (by rw [(fX12_c hV)]; decide) rfl uw_1229 uw_1226 uw_1228 up_32 uw_9 hd_X12_rank ⟨Nat.le_of_ble_eq_true rfl, Nat.le_of_ble_eq_true rfl⟩ ⟨Nat.zero_le _, Nat.zero_le _⟩ rfl rfl (hw_le ad [.inl t12] rfl (Nat.le_of_ble_eq_true rfl)) dX12_findOrder_59 (kkI (fun t14 S13 H locs rt14 h G => ?_))
        refine gx_icmp_le (tgt := 85) C rt12 rt14 dX12_findOrder_62 (by decide) (fun c15 => ?_) (fun c15 => ?_)
        · have h := h.1 c15
          exact b85 K7 hK7 y1 y2 S13 H locs ls ry1 ry2 hl G h
        · have h := h.2 c15
          refine gx_aload_n C hl dX12_findOrder_65 rfl ?_
          refine gx_getF C G rfl (fX12_o hV) (fo11_38 (fX12_c hV)) (fX12_row0 hV) uw_993 (fun _ h9 => h9) dX12_findOrder_66 ?_
          refine gx_iload_n C hl dX12_findOrder_69 rfl ?_
          refine gx_aload_n C hl dX12_findOrder_70 rfl ?_
          refine gx_getF C G rfl (fX12_o hV) (fo11_38 (fX12_c hV)) (fX12_row0 hV) uw_993 (fun _ h9 => h9) dX12_findOrder_71 ?_
          refine gx_iload_n C hl dX12_findOrder_74 rfl ?_
          refine gx_iconst C dX12_findOrder_75 ?_
          obtain ⟨h16, h⟩ := h
          refine gx_isub C dX12_findOrder_76 ?_
          obtain ⟨h17, h⟩ := h
          refine gx_iald C G rfl (fX12_row0_l hV) (fX12_row0_t hV) h16 h17.1 (ixl (fX12_row0_n hV) h17.2) dX12_findOrder_77 ?_
          have r18 := G.r (o + 22) (Int.toNat (y2 - 1))
          obtain ⟨h19, h⟩ := h
          refine gx_iast C G rfl (fX12_row0_l hV) (fX12_row0_t hV) ry2 r18 h19.1 (ixl (fX12_row0_n hV) h19.2) dX12_findOrder_78 (fun H locs G => ?_)
          obtain ⟨S20, eS20⟩ : ∃ q9 : Me, q9 = sI S13 (o + 22) (Int.toNat y2) (S13.1 (o + 22) (Int.toNat (y2 - 1))) := ⟨_, rfl⟩
          have h := h S20 eS20
          rw [← eS20] at G
          obtain ⟨h21, h⟩ := h
          refine gx_iinc C hl dX12_findOrder_79 rfl (PL' := [some (.inr (some o)), some (.inl y1), some (.inl (y2 + (-1)))]) rfl (fun ls hl => ?_)
          refine gx_goto (tgt := 41) C dX12_findOrder_82 (by decide) ?_
          exact ih y1 (y2 + (-1)) S20 H locs ls ry1 h21 hl G h
  have b7 : ∀ (n : Nat) (y1 : Int) (S : Me) (H : Heap) (locs : List Loc) (ls : Array Slot), rng y1 → lo ad ls [some (.inr (some o)), some (.inl y1), none] → Gy D cy A s.heap ad V S H locs → B_X12_findOrder_7 V o Q n y1 S → W p l e (rmx 3 62) s m args below meth c H locs 0 0 (qm below D cy ad V A args s (qV Q)) (F0 m 7 ls []) := by
    intro n
    induction n with
    | zero =>
      intro y1 S H locs ls ry1 hl G h
      exact absurd h id
    | succ n ih =>
      intro y1 S H locs ls ry1 hl G h
      rw [B_X12_findOrder_7] at h
      refine gx_iload_n C hl dX12_findOrder_7 rfl ?_
      refine gx_aload_n C hl dX12_findOrder_8 rfl ?_
      refine gx_getI C G rfl (fX12_o hV) (fo11_13 (fX12_c hV)) uw_968 (fun _ h9 => h9) dX12_findOrder_9 ?_
      have r22 := G.r o 13
      refine gx_icmp_ge (tgt := 108) C ry1 r22 dX12_findOrder_12 (by decide) (fun c23 => ?_) (fun c23 => ?_)
      · have h := h.1 c23
        exact gx_vret C G hret h dX12_findOrder_108
      · have h := h.2 c23
        refine gx_aload_n C hl dX12_findOrder_15 rfl ?_
        refine gx_iload_n C hl dX12_findOrder_16 rfl ?_
        refine gx_callV C G hl hml (c_X12_waits l D cy ad hV ry1 h) rfl (fX12_o hV) (by rw [(fX12_c hV)]; rfl) (by rw [(fX12_c hV)]; decide) rfl uw_1181 uw_1178 uw_1180 up_20 uw_9 hd_X12_waits ⟨Nat.le_of_ble_eq_true rfl, Nat.le_of_ble_eq_true rfl⟩ ⟨Nat.zero_le _, Nat.zero_le _⟩ rfl rfl (hw_le ad [] rfl (Nat.le_of_ble_eq_true rfl)) dX12_findOrder_17 (kkI (fun t25 S24 H locs rt25 h G => ?_))
        refine gx_if_eq (tgt := 102) C rt25 dX12_findOrder_20 (by decide) (fun c26 => ?_) (fun c26 => ?_)
        · have h := h.1 c26
          exact b102 (B_X12_findOrder_7 V o Q n) ih y1 S24 H locs ls ry1 hl G h
        · have h := h.2 c26
          refine gx_aload_n C hl dX12_findOrder_23 rfl ?_
          refine gx_getF C G rfl (fX12_o hV) (fo11_15 (fX12_c hV)) (fX12_kind hV) uw_970 (fun _ h9 => h9) dX12_findOrder_24 ?_
          refine gx_iload_n C hl dX12_findOrder_27 rfl ?_
          obtain ⟨h27, h⟩ := h
          refine gx_iald C G rfl (fX12_kind_l hV) (fX12_kind_t hV) ry1 h27.1 (ixl (fX12_kind_n hV) h27.2) dX12_findOrder_28 ?_
          have r28 := G.r (o + 4) (Int.toNat y1)
          refine gx_iconst C dX12_findOrder_29 ?_
          refine gx_icmp_ne (tgt := 36) C r28 (show rng 4 by decide) dX12_findOrder_30 (by decide) (fun c29 => ?_) (fun c29 => ?_)
          · have h := h.1 c29
            refine gx_aload_n C hl dX12_findOrder_36 rfl ?_
            refine gx_getI C G rfl (fX12_o hV) (fo11_39 (fX12_c hV)) uw_994 (fun _ h9 => h9) dX12_findOrder_37 ?_
            have r30 := G.r o 39
            refine gx_istore_n C hl dX12_findOrder_40 (Nat.le_of_ble_eq_true rfl) (PL' := [some (.inr (some o)), some (.inl y1), some (.inl (S24.1 o 39))]) rfl (fun ls hl => ?_)
            obtain ⟨n9, h⟩ := h
            exact b41 (B_X12_findOrder_7 V o Q n) ih n9 y1 (S24.1 o 39) S24 H locs ls ry1 r30 hl G h
          · have h := h.2 c29
            refine gx_goto (tgt := 102) C dX12_findOrder_33 (by decide) ?_
            exact b102 (B_X12_findOrder_7 V o Q n) ih y1 S24 H locs ls ry1 hl G h
  clear eA
  unfold PT_X12_findOrder at h
  refine gx_aload_n C hl dX12_findOrder_0 rfl ?_
  refine gx_iconst C dX12_findOrder_1 ?_
  refine gx_putI C G rfl (fX12_o hV) (fo11_39 (fX12_c hV)) (show rng 0 by decide) uw_994 (fun _ h9 => h9) dX12_findOrder_2 (fun H locs G => ?_)
  obtain ⟨S31, eS31⟩ : ∃ q9 : Me, q9 = sI S o 39 0 := ⟨_, rfl⟩
  have h := h S31 eS31
  rw [← eS31] at G
  refine gx_iconst C dX12_findOrder_5 ?_
  refine gx_istore_n C hl dX12_findOrder_6 (Nat.le_of_ble_eq_true rfl) (PL' := [some (.inr (some o)), some (.inl 0), none]) rfl (fun ls hl => ?_)
  obtain ⟨n9, h⟩ := h
  exact b7 n9 0 S31 H locs ls (show rng 0 by decide) hl G h
def B_X12_asked_409 (V : Vt) (o : Nat) (x1 : Int) (x2 : Int) (x3 : Int) (x4 : Int) (x5 : Int) (y10 : Int) (S : Me) (Q : Int → Me → Prop) : Prop := ((y10 = 0 → Q 0 S) ∧ (¬ y10 = 0 → (0 ≤ x1 ∧ x1 < 13) ∧ Q (S.1 (o + 1) (Int.toNat x1)) S))
def B_X12_asked_147 (V : Vt) (o : Nat) (x1 : Int) (x2 : Int) (x3 : Int) (x4 : Int) (x5 : Int) (w0 : Int) (S : Me) (Q : Int → Me → Prop) : Prop := B_X12_asked_409 V o x1 x2 x3 x4 x5 w0 S Q
def B_X12_asked_146 (V : Vt) (o : Nat) (x1 : Int) (x2 : Int) (x3 : Int) (x4 : Int) (x5 : Int) (S : Me) (Q : Int → Me → Prop) : Prop := B_X12_asked_147 V o x1 x2 x3 x4 x5 0 S Q
def B_X12_asked_172 (V : Vt) (o : Nat) (x1 : Int) (x2 : Int) (x3 : Int) (x4 : Int) (x5 : Int) (w0 : Int) (S : Me) (Q : Int → Me → Prop) : Prop := B_X12_asked_409 V o x1 x2 x3 x4 x5 w0 S Q
def B_X12_asked_171 (V : Vt) (o : Nat) (x1 : Int) (x2 : Int) (x3 : Int) (x4 : Int) (x5 : Int) (S : Me) (Q : Int → Me → Prop) : Prop := B_X12_asked_172 V o x1 x2 x3 x4 x5 0 S Q
def B_X12_asked_197 (V : Vt) (o : Nat) (x1 : Int) (x2 : Int) (x3 : Int) (x4 : Int) (x5 : Int) (w0 : Int) (S : Me) (Q : Int → Me → Prop) : Prop := B_X12_asked_409 V o x1 x2 x3 x4 x5 w0 S Q
def B_X12_asked_196 (V : Vt) (o : Nat) (x1 : Int) (x2 : Int) (x3 : Int) (x4 : Int) (x5 : Int) (S : Me) (Q : Int → Me → Prop) : Prop := B_X12_asked_197 V o x1 x2 x3 x4 x5 0 S Q
def B_X12_asked_223 (V : Vt) (o : Nat) (x1 : Int) (x2 : Int) (x3 : Int) (x4 : Int) (x5 : Int) (w0 : Int) (S : Me) (Q : Int → Me → Prop) : Prop := B_X12_asked_409 V o x1 x2 x3 x4 x5 w0 S Q
def B_X12_asked_222 (V : Vt) (o : Nat) (x1 : Int) (x2 : Int) (x3 : Int) (x4 : Int) (x5 : Int) (S : Me) (Q : Int → Me → Prop) : Prop := B_X12_asked_223 V o x1 x2 x3 x4 x5 0 S Q
def B_X12_asked_249 (V : Vt) (o : Nat) (x1 : Int) (x2 : Int) (x3 : Int) (x4 : Int) (x5 : Int) (w0 : Int) (S : Me) (Q : Int → Me → Prop) : Prop := B_X12_asked_409 V o x1 x2 x3 x4 x5 w0 S Q
def B_X12_asked_248 (V : Vt) (o : Nat) (x1 : Int) (x2 : Int) (x3 : Int) (x4 : Int) (x5 : Int) (S : Me) (Q : Int → Me → Prop) : Prop := B_X12_asked_249 V o x1 x2 x3 x4 x5 0 S Q
def B_X12_asked_274 (V : Vt) (o : Nat) (x1 : Int) (x2 : Int) (x3 : Int) (x4 : Int) (x5 : Int) (w0 : Int) (S : Me) (Q : Int → Me → Prop) : Prop := B_X12_asked_409 V o x1 x2 x3 x4 x5 w0 S Q
def B_X12_asked_273 (V : Vt) (o : Nat) (x1 : Int) (x2 : Int) (x3 : Int) (x4 : Int) (x5 : Int) (S : Me) (Q : Int → Me → Prop) : Prop := B_X12_asked_274 V o x1 x2 x3 x4 x5 0 S Q
def B_X12_asked_299 (V : Vt) (o : Nat) (x1 : Int) (x2 : Int) (x3 : Int) (x4 : Int) (x5 : Int) (w0 : Int) (S : Me) (Q : Int → Me → Prop) : Prop := B_X12_asked_409 V o x1 x2 x3 x4 x5 w0 S Q
def B_X12_asked_298 (V : Vt) (o : Nat) (x1 : Int) (x2 : Int) (x3 : Int) (x4 : Int) (x5 : Int) (S : Me) (Q : Int → Me → Prop) : Prop := B_X12_asked_299 V o x1 x2 x3 x4 x5 0 S Q
def B_X12_asked_320 (V : Vt) (o : Nat) (x1 : Int) (x2 : Int) (x3 : Int) (x4 : Int) (x5 : Int) (w0 : Int) (S : Me) (Q : Int → Me → Prop) : Prop := B_X12_asked_409 V o x1 x2 x3 x4 x5 w0 S Q
def B_X12_asked_319 (V : Vt) (o : Nat) (x1 : Int) (x2 : Int) (x3 : Int) (x4 : Int) (x5 : Int) (S : Me) (Q : Int → Me → Prop) : Prop := B_X12_asked_320 V o x1 x2 x3 x4 x5 0 S Q
def B_X12_asked_341 (V : Vt) (o : Nat) (x1 : Int) (x2 : Int) (x3 : Int) (x4 : Int) (x5 : Int) (w0 : Int) (S : Me) (Q : Int → Me → Prop) : Prop := B_X12_asked_409 V o x1 x2 x3 x4 x5 w0 S Q
def B_X12_asked_340 (V : Vt) (o : Nat) (x1 : Int) (x2 : Int) (x3 : Int) (x4 : Int) (x5 : Int) (S : Me) (Q : Int → Me → Prop) : Prop := B_X12_asked_341 V o x1 x2 x3 x4 x5 0 S Q
def B_X12_asked_365 (V : Vt) (o : Nat) (x1 : Int) (x2 : Int) (x3 : Int) (x4 : Int) (x5 : Int) (w0 : Int) (S : Me) (Q : Int → Me → Prop) : Prop := B_X12_asked_409 V o x1 x2 x3 x4 x5 w0 S Q
def B_X12_asked_364 (V : Vt) (o : Nat) (x1 : Int) (x2 : Int) (x3 : Int) (x4 : Int) (x5 : Int) (S : Me) (Q : Int → Me → Prop) : Prop := B_X12_asked_365 V o x1 x2 x3 x4 x5 0 S Q
def B_X12_asked_407 (V : Vt) (o : Nat) (x1 : Int) (x2 : Int) (x3 : Int) (x4 : Int) (x5 : Int) (w0 : Int) (S : Me) (Q : Int → Me → Prop) : Prop := B_X12_asked_409 V o x1 x2 x3 x4 x5 w0 S Q
def B_X12_asked_406 (V : Vt) (o : Nat) (x1 : Int) (x2 : Int) (x3 : Int) (x4 : Int) (x5 : Int) (S : Me) (Q : Int → Me → Prop) : Prop := B_X12_asked_407 V o x1 x2 x3 x4 x5 0 S Q
def B_X12_asked_385 (V : Vt) (o : Nat) (x1 : Int) (x2 : Int) (x3 : Int) (x4 : Int) (x5 : Int) (S : Me) (Q : Int → Me → Prop) : Prop := ((¬ x1 = 12 → B_X12_asked_406 V o x1 x2 x3 x4 x5 S Q) ∧ (x1 = 12 → ((¬ x4 = 4 → B_X12_asked_406 V o x1 x2 x3 x4 x5 S Q) ∧ (x4 = 4 → ((¬ x2 = 1 → B_X12_asked_406 V o x1 x2 x3 x4 x5 S Q) ∧ (x2 = 1 → B_X12_asked_407 V o x1 x2 x3 x4 x5 1 S Q))))))
def B_X12_asked_380 (V : Vt) (o : Nat) (x1 : Int) (x2 : Int) (x3 : Int) (x4 : Int) (x5 : Int) (w0 : Int) (S : Me) (Q : Int → Me → Prop) : Prop := B_X12_asked_409 V o x1 x2 x3 x4 x5 w0 S Q
def B_X12_asked_64 (V : Vt) (o : Nat) (x1 : Int) (x2 : Int) (x3 : Int) (x4 : Int) (x5 : Int) (y6 : Int) (y7 : Int) (y8 : Int) (w0 : Int) (S : Me) (Q : Int → Me → Prop) : Prop := ((x1 = 0 → ((y8 = 0 → B_X12_asked_146 V o x1 x2 x3 x4 x5 S Q) ∧ (¬ y8 = 0 → ((¬ x2 = 0 → B_X12_asked_146 V o x1 x2 x3 x4 x5 S Q) ∧ (x2 = 0 → ((y6 = 0 → B_X12_asked_146 V o x1 x2 x3 x4 x5 S Q) ∧ (¬ y6 = 0 → B_X12_asked_147 V o x1 x2 x3 x4 x5 1 S Q))))))) ∧ (x1 = 1 → ((¬ x4 = 1 → B_X12_asked_171 V o x1 x2 x3 x4 x5 S Q) ∧ (x4 = 1 → ((¬ x2 = 0 → B_X12_asked_171 V o x1 x2 x3 x4 x5 S Q) ∧ (x2 = 0 → ((y6 = 0 → B_X12_asked_171 V o x1 x2 x3 x4 x5 S Q) ∧ (¬ y6 = 0 → B_X12_asked_172 V o x1 x2 x3 x4 x5 1 S Q))))))) ∧ (x1 = 2 → ((¬ x4 = 0 → B_X12_asked_196 V o x1 x2 x3 x4 x5 S Q) ∧ (x4 = 0 → ((¬ x2 = 1 → B_X12_asked_196 V o x1 x2 x3 x4 x5 S Q) ∧ (x2 = 1 → ((y6 = 0 → B_X12_asked_196 V o x1 x2 x3 x4 x5 S Q) ∧ (¬ y6 = 0 → B_X12_asked_197 V o x1 x2 x3 x4 x5 1 S Q))))))) ∧ (x1 = 3 → ((¬ x4 = 1 → B_X12_asked_222 V o x1 x2 x3 x4 x5 S Q) ∧ (x4 = 1 → ((¬ x2 = 2 → B_X12_asked_222 V o x1 x2 x3 x4 x5 S Q) ∧ (x2 = 2 → ((y6 = 0 → B_X12_asked_222 V o x1 x2 x3 x4 x5 S Q) ∧ (¬ y6 = 0 → B_X12_asked_223 V o x1 x2 x3 x4 x5 1 S Q))))))) ∧ (x1 = 4 → ((¬ x4 = 1 → B_X12_asked_248 V o x1 x2 x3 x4 x5 S Q) ∧ (x4 = 1 → ((¬ x2 = 3 → B_X12_asked_248 V o x1 x2 x3 x4 x5 S Q) ∧ (x2 = 3 → ((y6 = 0 → B_X12_asked_248 V o x1 x2 x3 x4 x5 S Q) ∧ (¬ y6 = 0 → B_X12_asked_249 V o x1 x2 x3 x4 x5 1 S Q))))))) ∧ (x1 = 5 → ((y8 = 0 → B_X12_asked_273 V o x1 x2 x3 x4 x5 S Q) ∧ (¬ y8 = 0 → ((w0 = 0 → B_X12_asked_273 V o x1 x2 x3 x4 x5 S Q) ∧ (¬ w0 = 0 → ((y7 = 0 → B_X12_asked_273 V o x1 x2 x3 x4 x5 S Q) ∧ (¬ y7 = 0 → B_X12_asked_274 V o x1 x2 x3 x4 x5 1 S Q))))))) ∧ (x1 = 6 → ((y8 = 0 → B_X12_asked_298 V o x1 x2 x3 x4 x5 S Q) ∧ (¬ y8 = 0 → ((w0 = 0 → B_X12_asked_298 V o x1 x2 x3 x4 x5 S Q) ∧ (¬ w0 = 0 → ((¬ y7 = 0 → B_X12_asked_298 V o x1 x2 x3 x4 x5 S Q) ∧ (y7 = 0 → B_X12_asked_299 V o x1 x2 x3 x4 x5 1 S Q))))))) ∧ (x1 = 7 → ((¬ x4 = 3 → B_X12_asked_319 V o x1 x2 x3 x4 x5 S Q) ∧ (x4 = 3 → ((¬ x2 = 2 → B_X12_asked_319 V o x1 x2 x3 x4 x5 S Q) ∧ (x2 = 2 → B_X12_asked_320 V o x1 x2 x3 x4 x5 1 S Q))))) ∧ (x1 = 8 → ((¬ x4 = 2 → B_X12_asked_340 V o x1 x2 x3 x4 x5 S Q) ∧ (x4 = 2 → ((¬ x2 = 3 → B_X12_asked_340 V o x1 x2 x3 x4 x5 S Q) ∧ (x2 = 3 → B_X12_asked_341 V o x1 x2 x3 x4 x5 1 S Q))))) ∧ (x1 = 9 → ((¬ x4 = 0 → B_X12_asked_364 V o x1 x2 x3 x4 x5 S Q) ∧ (x4 = 0 → ((¬ x2 = 0 → B_X12_asked_364 V o x1 x2 x3 x4 x5 S Q) ∧ (x2 = 0 → ((¬ y6 = 0 → B_X12_asked_364 V o x1 x2 x3 x4 x5 S Q) ∧ (y6 = 0 → B_X12_asked_365 V o x1 x2 x3 x4 x5 1 S Q))))))) ∧ (x1 = 10 → B_X12_asked_385 V o x1 x2 x3 x4 x5 S Q) ∧ (x1 = 11 → ((¬ x2 = 4 → B_X12_asked_380 V o x1 x2 x3 x4 x5 0 S Q) ∧ (x2 = 4 → B_X12_asked_380 V o x1 x2 x3 x4 x5 1 S Q))) ∧ ((x1 < 0 ∨ 11 < x1) → B_X12_asked_385 V o x1 x2 x3 x4 x5 S Q))
def B_X12_asked_59 (V : Vt) (o : Nat) (x1 : Int) (x2 : Int) (x3 : Int) (x4 : Int) (x5 : Int) (y6 : Int) (y7 : Int) (y8 : Int) (S : Me) (Q : Int → Me → Prop) : Prop := B_X12_asked_64 V o x1 x2 x3 x4 x5 y6 y7 y8 1 S Q
def B_X12_asked_47 (V : Vt) (o : Nat) (x1 : Int) (x2 : Int) (x3 : Int) (x4 : Int) (x5 : Int) (y6 : Int) (y7 : Int) (w0 : Int) (S : Me) (Q : Int → Me → Prop) : Prop := ((x2 = 2 → B_X12_asked_59 V o x1 x2 x3 x4 x5 y6 y7 w0 S Q) ∧ (¬ x2 = 2 → ((¬ x2 = 3 → B_X12_asked_64 V o x1 x2 x3 x4 x5 y6 y7 w0 0 S Q) ∧ (x2 = 3 → B_X12_asked_59 V o x1 x2 x3 x4 x5 y6 y7 w0 S Q))))
def B_X12_asked_42 (V : Vt) (o : Nat) (x1 : Int) (x2 : Int) (x3 : Int) (x4 : Int) (x5 : Int) (y6 : Int) (y7 : Int) (S : Me) (Q : Int → Me → Prop) : Prop := B_X12_asked_47 V o x1 x2 x3 x4 x5 y6 y7 1 S Q
def B_X12_asked_28 (V : Vt) (o : Nat) (x1 : Int) (x2 : Int) (x3 : Int) (x4 : Int) (x5 : Int) (y6 : Int) (w0 : Int) (S : Me) (Q : Int → Me → Prop) : Prop := ((x4 = 2 → B_X12_asked_42 V o x1 x2 x3 x4 x5 y6 w0 S Q) ∧ (¬ x4 = 2 → ((¬ x4 = 3 → B_X12_asked_47 V o x1 x2 x3 x4 x5 y6 w0 0 S Q) ∧ (x4 = 3 → B_X12_asked_42 V o x1 x2 x3 x4 x5 y6 w0 S Q))))
def B_X12_asked_11 (V : Vt) (o : Nat) (x1 : Int) (x2 : Int) (x3 : Int) (x4 : Int) (x5 : Int) (w0 : Int) (S : Me) (Q : Int → Me → Prop) : Prop := ((¬ (Int.tdiv x3 2) = (Int.tdiv x5 2) → B_X12_asked_28 V o x1 x2 x3 x4 x5 w0 0 S Q) ∧ ((Int.tdiv x3 2) = (Int.tdiv x5 2) → B_X12_asked_28 V o x1 x2 x3 x4 x5 w0 1 S Q))
def PT_X12_asked (V : Vt) (o : Nat) (x1 : Int) (x2 : Int) (x3 : Int) (x4 : Int) (x5 : Int) (S : Me) (Q : Int → Me → Prop) : Prop := ((¬ x3 = x5 → B_X12_asked_11 V o x1 x2 x3 x4 x5 0 S Q) ∧ (x3 = x5 → B_X12_asked_11 V o x1 x2 x3 x4 x5 1 S Q))
theorem hd_X12_asked : yX12_asked.cls ≠ "java/lang/invoke/MethodHandle" ∧ yX12_asked.cls ≠ "java/lang/invoke/VarHandle" ∧ (parseMethodDescriptor yX12_asked.desc).map (fun d => d.parameters.length) = some 5 := by decide +kernel
set_option maxHeartbeats 4000000 in
set_option maxRecDepth 100000 in
theorem c_X12_asked (l : Launch) (D : va_G) (cy : ClassId × ClassId × ClassId × ClassId) (ad : Nat → Nat) {V : Vt} {S : Me} {o : Nat} {x1 : Int} {x2 : Int} {x3 : Int} {x4 : Int} {x5 : Int} (hV : fX12 V o) (rx1 : rng x1) (rx2 : rng x2) (rx3 : rng x3) (rx4 : rng x4) (rx5 : rng x5) {Q : Int → Me → Prop} (h : PT_X12_asked V o x1 x2 x3 x4 x5 S Q) : KM l D cy yX12_asked cX12_asked 11 (Option.some Jvm.ClassFile.FieldType.int) 0 0 ad V S [.inr (some o), .inl x1, .inl x2, .inl x3, .inl x4, .inl x5] (qI Q) := by
  refine KM.of (by decide) rfl (Nat.le_of_ble_eq_true rfl) (own := RX12) (fun p e s m args below meth c A ls H locs eA C hret hml hmn hl G => ?_)
  have hl : lo ad ls [some (.inr (some o)), some (.inl x1), some (.inl x2), some (.inl x3), some (.inl x4), some (.inl x5), none, none, none, none, none] := hl
  have b409 : ∀ (y10 : Int) (S : Me) (H : Heap) (locs : List Loc) (ls : Array Slot), rng y10 → lo ad ls [some (.inr (some o)), some (.inl x1), some (.inl x2), some (.inl x3), some (.inl x4), some (.inl x5), none, none, none, none, some (.inl y10)] → Gy D cy A s.heap ad V S H locs → B_X12_asked_409 V o x1 x2 x3 x4 x5 y10 S Q → W p l e (rmx 0 0) s m args below meth c H locs 0 0 (qm below D cy ad V A args s (qI Q)) (F0 m 409 ls []) := by
    intro y10 S H locs ls ry10 hl G h
    unfold B_X12_asked_409 at h
    refine gx_iload C hl dX12_asked_409 rfl ?_
    refine gx_if_eq (tgt := 423) C ry10 dX12_asked_411 (by decide) (fun c1 => ?_) (fun c1 => ?_)
    · have h := h.1 c1
      refine gx_iconst C dX12_asked_423 ?_
      exact gx_iret C G hret (show rng 0 by decide) h dX12_asked_424
    · have h := h.2 c1
      refine gx_aload_n C hl dX12_asked_414 rfl ?_
      refine gx_getF C G rfl (fX12_o hV) (fo11_1 (fX12_c hV)) (fX12_time hV) uw_956 (fun _ h9 => h9) dX12_asked_415 ?_
      refine gx_iload_n C hl dX12_asked_418 rfl ?_
      obtain ⟨h2, h⟩ := h
      refine gx_iald C G rfl (fX12_time_l hV) (fX12_time_t hV) rx1 h2.1 (ixl (fX12_time_n hV) h2.2) dX12_asked_419 ?_
      have r3 := G.r (o + 1) (Int.toNat x1)
      refine gx_goto (tgt := 424) C dX12_asked_420 (by decide) ?_
      exact gx_iret C G hret r3 h dX12_asked_424
  have b147 : ∀ (w0 : Int) (S : Me) (H : Heap) (locs : List Loc) (ls : Array Slot), rng w0 → lo ad ls [some (.inr (some o)), some (.inl x1), some (.inl x2), some (.inl x3), some (.inl x4), some (.inl x5), none, none, none, none, none] → Gy D cy A s.heap ad V S H locs → B_X12_asked_147 V o x1 x2 x3 x4 x5 w0 S Q → W p l e (rmx 0 0) s m args below meth c H locs 0 0 (qm below D cy ad V A args s (qI Q)) (F0 m 147 ls [vI w0]) := by
    intro w0 S H locs ls rw0 hl G h
    unfold B_X12_asked_147 at h
    refine gx_istore C hl dX12_asked_147 (Nat.le_of_ble_eq_true rfl) (PL' := [some (.inr (some o)), some (.inl x1), some (.inl x2), some (.inl x3), some (.inl x4), some (.inl x5), none, none, none, none, some (.inl w0)]) rfl (fun ls hl => ?_)
    refine gx_goto (tgt := 409) C dX12_asked_149 (by decide) ?_
    exact b409 w0 S H locs ls rw0 hl G h
  have b146 : ∀ (S : Me) (H : Heap) (locs : List Loc) (ls : Array Slot), lo ad ls [some (.inr (some o)), some (.inl x1), some (.inl x2), some (.inl x3), some (.inl x4), some (.inl x5), none, none, none, none, none] → Gy D cy A s.heap ad V S H locs → B_X12_asked_146 V o x1 x2 x3 x4 x5 S Q → W p l e (rmx 0 0) s m args below meth c H locs 0 0 (qm below D cy ad V A args s (qI Q)) (F0 m 146 ls []) := by
    intro S H locs ls hl G h
    unfold B_X12_asked_146 at h
    refine gx_iconst C dX12_asked_146 ?_
    exact b147 0 S H locs ls (show rng 0 by decide) hl G h
  have b172 : ∀ (w0 : Int) (S : Me) (H : Heap) (locs : List Loc) (ls : Array Slot), rng w0 → lo ad ls [some (.inr (some o)), some (.inl x1), some (.inl x2), some (.inl x3), some (.inl x4), some (.inl x5), none, none, none, none, none] → Gy D cy A s.heap ad V S H locs → B_X12_asked_172 V o x1 x2 x3 x4 x5 w0 S Q → W p l e (rmx 0 0) s m args below meth c H locs 0 0 (qm below D cy ad V A args s (qI Q)) (F0 m 172 ls [vI w0]) := by
    intro w0 S H locs ls rw0 hl G h
    unfold B_X12_asked_172 at h
    refine gx_istore C hl dX12_asked_172 (Nat.le_of_ble_eq_true rfl) (PL' := [some (.inr (some o)), some (.inl x1), some (.inl x2), some (.inl x3), some (.inl x4), some (.inl x5), none, none, none, none, some (.inl w0)]) rfl (fun ls hl => ?_)
    refine gx_goto (tgt := 409) C dX12_asked_174 (by decide) ?_
    exact b409 w0 S H locs ls rw0 hl G h
  have b171 : ∀ (S : Me) (H : Heap) (locs : List Loc) (ls : Array Slot), lo ad ls [some (.inr (some o)), some (.inl x1), some (.inl x2), some (.inl x3), some (.inl x4), some (.inl x5), none, none, none, none, none] → Gy D cy A s.heap ad V S H locs → B_X12_asked_171 V o x1 x2 x3 x4 x5 S Q → W p l e (rmx 0 0) s m args below meth c H locs 0 0 (qm below D cy ad V A args s (qI Q)) (F0 m 171 ls []) := by
    intro S H locs ls hl G h
    unfold B_X12_asked_171 at h
    refine gx_iconst C dX12_asked_171 ?_
    exact b172 0 S H locs ls (show rng 0 by decide) hl G h
  have b197 : ∀ (w0 : Int) (S : Me) (H : Heap) (locs : List Loc) (ls : Array Slot), rng w0 → lo ad ls [some (.inr (some o)), some (.inl x1), some (.inl x2), some (.inl x3), some (.inl x4), some (.inl x5), none, none, none, none, none] → Gy D cy A s.heap ad V S H locs → B_X12_asked_197 V o x1 x2 x3 x4 x5 w0 S Q → W p l e (rmx 0 0) s m args below meth c H locs 0 0 (qm below D cy ad V A args s (qI Q)) (F0 m 197 ls [vI w0]) := by
    intro w0 S H locs ls rw0 hl G h
    unfold B_X12_asked_197 at h
    refine gx_istore C hl dX12_asked_197 (Nat.le_of_ble_eq_true rfl) (PL' := [some (.inr (some o)), some (.inl x1), some (.inl x2), some (.inl x3), some (.inl x4), some (.inl x5), none, none, none, none, some (.inl w0)]) rfl (fun ls hl => ?_)
    refine gx_goto (tgt := 409) C dX12_asked_199 (by decide) ?_
    exact b409 w0 S H locs ls rw0 hl G h
  have b196 : ∀ (S : Me) (H : Heap) (locs : List Loc) (ls : Array Slot), lo ad ls [some (.inr (some o)), some (.inl x1), some (.inl x2), some (.inl x3), some (.inl x4), some (.inl x5), none, none, none, none, none] → Gy D cy A s.heap ad V S H locs → B_X12_asked_196 V o x1 x2 x3 x4 x5 S Q → W p l e (rmx 0 0) s m args below meth c H locs 0 0 (qm below D cy ad V A args s (qI Q)) (F0 m 196 ls []) := by
    intro S H locs ls hl G h
    unfold B_X12_asked_196 at h
    refine gx_iconst C dX12_asked_196 ?_
    exact b197 0 S H locs ls (show rng 0 by decide) hl G h
  have b223 : ∀ (w0 : Int) (S : Me) (H : Heap) (locs : List Loc) (ls : Array Slot), rng w0 → lo ad ls [some (.inr (some o)), some (.inl x1), some (.inl x2), some (.inl x3), some (.inl x4), some (.inl x5), none, none, none, none, none] → Gy D cy A s.heap ad V S H locs → B_X12_asked_223 V o x1 x2 x3 x4 x5 w0 S Q → W p l e (rmx 0 0) s m args below meth c H locs 0 0 (qm below D cy ad V A args s (qI Q)) (F0 m 223 ls [vI w0]) := by
    intro w0 S H locs ls rw0 hl G h
    unfold B_X12_asked_223 at h
    refine gx_istore C hl dX12_asked_223 (Nat.le_of_ble_eq_true rfl) (PL' := [some (.inr (some o)), some (.inl x1), some (.inl x2), some (.inl x3), some (.inl x4), some (.inl x5), none, none, none, none, some (.inl w0)]) rfl (fun ls hl => ?_)
    refine gx_goto (tgt := 409) C dX12_asked_225 (by decide) ?_
    exact b409 w0 S H locs ls rw0 hl G h
  have b222 : ∀ (S : Me) (H : Heap) (locs : List Loc) (ls : Array Slot), lo ad ls [some (.inr (some o)), some (.inl x1), some (.inl x2), some (.inl x3), some (.inl x4), some (.inl x5), none, none, none, none, none] → Gy D cy A s.heap ad V S H locs → B_X12_asked_222 V o x1 x2 x3 x4 x5 S Q → W p l e (rmx 0 0) s m args below meth c H locs 0 0 (qm below D cy ad V A args s (qI Q)) (F0 m 222 ls []) := by
    intro S H locs ls hl G h
    unfold B_X12_asked_222 at h
    refine gx_iconst C dX12_asked_222 ?_
    exact b223 0 S H locs ls (show rng 0 by decide) hl G h
  have b249 : ∀ (w0 : Int) (S : Me) (H : Heap) (locs : List Loc) (ls : Array Slot), rng w0 → lo ad ls [some (.inr (some o)), some (.inl x1), some (.inl x2), some (.inl x3), some (.inl x4), some (.inl x5), none, none, none, none, none] → Gy D cy A s.heap ad V S H locs → B_X12_asked_249 V o x1 x2 x3 x4 x5 w0 S Q → W p l e (rmx 0 0) s m args below meth c H locs 0 0 (qm below D cy ad V A args s (qI Q)) (F0 m 249 ls [vI w0]) := by
    intro w0 S H locs ls rw0 hl G h
    unfold B_X12_asked_249 at h
    refine gx_istore C hl dX12_asked_249 (Nat.le_of_ble_eq_true rfl) (PL' := [some (.inr (some o)), some (.inl x1), some (.inl x2), some (.inl x3), some (.inl x4), some (.inl x5), none, none, none, none, some (.inl w0)]) rfl (fun ls hl => ?_)
    refine gx_goto (tgt := 409) C dX12_asked_251 (by decide) ?_
    exact b409 w0 S H locs ls rw0 hl G h
  have b248 : ∀ (S : Me) (H : Heap) (locs : List Loc) (ls : Array Slot), lo ad ls [some (.inr (some o)), some (.inl x1), some (.inl x2), some (.inl x3), some (.inl x4), some (.inl x5), none, none, none, none, none] → Gy D cy A s.heap ad V S H locs → B_X12_asked_248 V o x1 x2 x3 x4 x5 S Q → W p l e (rmx 0 0) s m args below meth c H locs 0 0 (qm below D cy ad V A args s (qI Q)) (F0 m 248 ls []) := by
    intro S H locs ls hl G h
    unfold B_X12_asked_248 at h
    refine gx_iconst C dX12_asked_248 ?_
    exact b249 0 S H locs ls (show rng 0 by decide) hl G h
  have b274 : ∀ (w0 : Int) (S : Me) (H : Heap) (locs : List Loc) (ls : Array Slot), rng w0 → lo ad ls [some (.inr (some o)), some (.inl x1), some (.inl x2), some (.inl x3), some (.inl x4), some (.inl x5), none, none, none, none, none] → Gy D cy A s.heap ad V S H locs → B_X12_asked_274 V o x1 x2 x3 x4 x5 w0 S Q → W p l e (rmx 0 0) s m args below meth c H locs 0 0 (qm below D cy ad V A args s (qI Q)) (F0 m 274 ls [vI w0]) := by
    intro w0 S H locs ls rw0 hl G h
    unfold B_X12_asked_274 at h
    refine gx_istore C hl dX12_asked_274 (Nat.le_of_ble_eq_true rfl) (PL' := [some (.inr (some o)), some (.inl x1), some (.inl x2), some (.inl x3), some (.inl x4), some (.inl x5), none, none, none, none, some (.inl w0)]) rfl (fun ls hl => ?_)
    refine gx_goto (tgt := 409) C dX12_asked_276 (by decide) ?_
    exact b409 w0 S H locs ls rw0 hl G h
  have b273 : ∀ (S : Me) (H : Heap) (locs : List Loc) (ls : Array Slot), lo ad ls [some (.inr (some o)), some (.inl x1), some (.inl x2), some (.inl x3), some (.inl x4), some (.inl x5), none, none, none, none, none] → Gy D cy A s.heap ad V S H locs → B_X12_asked_273 V o x1 x2 x3 x4 x5 S Q → W p l e (rmx 0 0) s m args below meth c H locs 0 0 (qm below D cy ad V A args s (qI Q)) (F0 m 273 ls []) := by
    intro S H locs ls hl G h
    unfold B_X12_asked_273 at h
    refine gx_iconst C dX12_asked_273 ?_
    exact b274 0 S H locs ls (show rng 0 by decide) hl G h
  have b299 : ∀ (w0 : Int) (S : Me) (H : Heap) (locs : List Loc) (ls : Array Slot), rng w0 → lo ad ls [some (.inr (some o)), some (.inl x1), some (.inl x2), some (.inl x3), some (.inl x4), some (.inl x5), none, none, none, none, none] → Gy D cy A s.heap ad V S H locs → B_X12_asked_299 V o x1 x2 x3 x4 x5 w0 S Q → W p l e (rmx 0 0) s m args below meth c H locs 0 0 (qm below D cy ad V A args s (qI Q)) (F0 m 299 ls [vI w0]) := by
    intro w0 S H locs ls rw0 hl G h
    unfold B_X12_asked_299 at h
    refine gx_istore C hl dX12_asked_299 (Nat.le_of_ble_eq_true rfl) (PL' := [some (.inr (some o)), some (.inl x1), some (.inl x2), some (.inl x3), some (.inl x4), some (.inl x5), none, none, none, none, some (.inl w0)]) rfl (fun ls hl => ?_)
    refine gx_goto (tgt := 409) C dX12_asked_301 (by decide) ?_
    exact b409 w0 S H locs ls rw0 hl G h
  have b298 : ∀ (S : Me) (H : Heap) (locs : List Loc) (ls : Array Slot), lo ad ls [some (.inr (some o)), some (.inl x1), some (.inl x2), some (.inl x3), some (.inl x4), some (.inl x5), none, none, none, none, none] → Gy D cy A s.heap ad V S H locs → B_X12_asked_298 V o x1 x2 x3 x4 x5 S Q → W p l e (rmx 0 0) s m args below meth c H locs 0 0 (qm below D cy ad V A args s (qI Q)) (F0 m 298 ls []) := by
    intro S H locs ls hl G h
    unfold B_X12_asked_298 at h
    refine gx_iconst C dX12_asked_298 ?_
    exact b299 0 S H locs ls (show rng 0 by decide) hl G h
  have b320 : ∀ (w0 : Int) (S : Me) (H : Heap) (locs : List Loc) (ls : Array Slot), rng w0 → lo ad ls [some (.inr (some o)), some (.inl x1), some (.inl x2), some (.inl x3), some (.inl x4), some (.inl x5), none, none, none, none, none] → Gy D cy A s.heap ad V S H locs → B_X12_asked_320 V o x1 x2 x3 x4 x5 w0 S Q → W p l e (rmx 0 0) s m args below meth c H locs 0 0 (qm below D cy ad V A args s (qI Q)) (F0 m 320 ls [vI w0]) := by
    intro w0 S H locs ls rw0 hl G h
    unfold B_X12_asked_320 at h
    refine gx_istore C hl dX12_asked_320 (Nat.le_of_ble_eq_true rfl) (PL' := [some (.inr (some o)), some (.inl x1), some (.inl x2), some (.inl x3), some (.inl x4), some (.inl x5), none, none, none, none, some (.inl w0)]) rfl (fun ls hl => ?_)
    refine gx_goto (tgt := 409) C dX12_asked_322 (by decide) ?_
    exact b409 w0 S H locs ls rw0 hl G h
  have b319 : ∀ (S : Me) (H : Heap) (locs : List Loc) (ls : Array Slot), lo ad ls [some (.inr (some o)), some (.inl x1), some (.inl x2), some (.inl x3), some (.inl x4), some (.inl x5), none, none, none, none, none] → Gy D cy A s.heap ad V S H locs → B_X12_asked_319 V o x1 x2 x3 x4 x5 S Q → W p l e (rmx 0 0) s m args below meth c H locs 0 0 (qm below D cy ad V A args s (qI Q)) (F0 m 319 ls []) := by
    intro S H locs ls hl G h
    unfold B_X12_asked_319 at h
    refine gx_iconst C dX12_asked_319 ?_
    exact b320 0 S H locs ls (show rng 0 by decide) hl G h
  have b341 : ∀ (w0 : Int) (S : Me) (H : Heap) (locs : List Loc) (ls : Array Slot), rng w0 → lo ad ls [some (.inr (some o)), some (.inl x1), some (.inl x2), some (.inl x3), some (.inl x4), some (.inl x5), none, none, none, none, none] → Gy D cy A s.heap ad V S H locs → B_X12_asked_341 V o x1 x2 x3 x4 x5 w0 S Q → W p l e (rmx 0 0) s m args below meth c H locs 0 0 (qm below D cy ad V A args s (qI Q)) (F0 m 341 ls [vI w0]) := by
    intro w0 S H locs ls rw0 hl G h
    unfold B_X12_asked_341 at h
    refine gx_istore C hl dX12_asked_341 (Nat.le_of_ble_eq_true rfl) (PL' := [some (.inr (some o)), some (.inl x1), some (.inl x2), some (.inl x3), some (.inl x4), some (.inl x5), none, none, none, none, some (.inl w0)]) rfl (fun ls hl => ?_)
    refine gx_goto (tgt := 409) C dX12_asked_343 (by decide) ?_
    exact b409 w0 S H locs ls rw0 hl G h
  have b340 : ∀ (S : Me) (H : Heap) (locs : List Loc) (ls : Array Slot), lo ad ls [some (.inr (some o)), some (.inl x1), some (.inl x2), some (.inl x3), some (.inl x4), some (.inl x5), none, none, none, none, none] → Gy D cy A s.heap ad V S H locs → B_X12_asked_340 V o x1 x2 x3 x4 x5 S Q → W p l e (rmx 0 0) s m args below meth c H locs 0 0 (qm below D cy ad V A args s (qI Q)) (F0 m 340 ls []) := by
    intro S H locs ls hl G h
    unfold B_X12_asked_340 at h
    refine gx_iconst C dX12_asked_340 ?_
    exact b341 0 S H locs ls (show rng 0 by decide) hl G h
  have b365 : ∀ (w0 : Int) (S : Me) (H : Heap) (locs : List Loc) (ls : Array Slot), rng w0 → lo ad ls [some (.inr (some o)), some (.inl x1), some (.inl x2), some (.inl x3), some (.inl x4), some (.inl x5), none, none, none, none, none] → Gy D cy A s.heap ad V S H locs → B_X12_asked_365 V o x1 x2 x3 x4 x5 w0 S Q → W p l e (rmx 0 0) s m args below meth c H locs 0 0 (qm below D cy ad V A args s (qI Q)) (F0 m 365 ls [vI w0]) := by
    intro w0 S H locs ls rw0 hl G h
    unfold B_X12_asked_365 at h
    refine gx_istore C hl dX12_asked_365 (Nat.le_of_ble_eq_true rfl) (PL' := [some (.inr (some o)), some (.inl x1), some (.inl x2), some (.inl x3), some (.inl x4), some (.inl x5), none, none, none, none, some (.inl w0)]) rfl (fun ls hl => ?_)
    refine gx_goto (tgt := 409) C dX12_asked_367 (by decide) ?_
    exact b409 w0 S H locs ls rw0 hl G h
  have b364 : ∀ (S : Me) (H : Heap) (locs : List Loc) (ls : Array Slot), lo ad ls [some (.inr (some o)), some (.inl x1), some (.inl x2), some (.inl x3), some (.inl x4), some (.inl x5), none, none, none, none, none] → Gy D cy A s.heap ad V S H locs → B_X12_asked_364 V o x1 x2 x3 x4 x5 S Q → W p l e (rmx 0 0) s m args below meth c H locs 0 0 (qm below D cy ad V A args s (qI Q)) (F0 m 364 ls []) := by
    intro S H locs ls hl G h
    unfold B_X12_asked_364 at h
    refine gx_iconst C dX12_asked_364 ?_
    exact b365 0 S H locs ls (show rng 0 by decide) hl G h
  have b407 : ∀ (w0 : Int) (S : Me) (H : Heap) (locs : List Loc) (ls : Array Slot), rng w0 → lo ad ls [some (.inr (some o)), some (.inl x1), some (.inl x2), some (.inl x3), some (.inl x4), some (.inl x5), none, none, none, none, none] → Gy D cy A s.heap ad V S H locs → B_X12_asked_407 V o x1 x2 x3 x4 x5 w0 S Q → W p l e (rmx 0 0) s m args below meth c H locs 0 0 (qm below D cy ad V A args s (qI Q)) (F0 m 407 ls [vI w0]) := by
    intro w0 S H locs ls rw0 hl G h
    unfold B_X12_asked_407 at h
    refine gx_istore C hl dX12_asked_407 (Nat.le_of_ble_eq_true rfl) (PL' := [some (.inr (some o)), some (.inl x1), some (.inl x2), some (.inl x3), some (.inl x4), some (.inl x5), none, none, none, none, some (.inl w0)]) rfl (fun ls hl => ?_)
    exact b409 w0 S H locs ls rw0 hl G h
  have b406 : ∀ (S : Me) (H : Heap) (locs : List Loc) (ls : Array Slot), lo ad ls [some (.inr (some o)), some (.inl x1), some (.inl x2), some (.inl x3), some (.inl x4), some (.inl x5), none, none, none, none, none] → Gy D cy A s.heap ad V S H locs → B_X12_asked_406 V o x1 x2 x3 x4 x5 S Q → W p l e (rmx 0 0) s m args below meth c H locs 0 0 (qm below D cy ad V A args s (qI Q)) (F0 m 406 ls []) := by
    intro S H locs ls hl G h
    unfold B_X12_asked_406 at h
    refine gx_iconst C dX12_asked_406 ?_
    exact b407 0 S H locs ls (show rng 0 by decide) hl G h
  have b385 : ∀ (S : Me) (H : Heap) (locs : List Loc) (ls : Array Slot), lo ad ls [some (.inr (some o)), some (.inl x1), some (.inl x2), some (.inl x3), some (.inl x4), some (.inl x5), none, none, none, none, none] → Gy D cy A s.heap ad V S H locs → B_X12_asked_385 V o x1 x2 x3 x4 x5 S Q → W p l e (rmx 0 0) s m args below meth c H locs 0 0 (qm below D cy ad V A args s (qI Q)) (F0 m 385 ls []) := by
    intro S H locs ls hl G h
    unfold B_X12_asked_385 at h
    refine gx_iload_n C hl dX12_asked_385 rfl ?_
    refine gx_bipush C dX12_asked_386 (by decide) ?_
    refine gx_icmp_ne (tgt := 406) C rx1 (show rng 12 by decide) dX12_asked_388 (by decide) (fun c4 => ?_) (fun c4 => ?_)
    · have h := h.1 c4
      exact b406 S H locs ls hl G h
    · have h := h.2 c4
      refine gx_iload C hl dX12_asked_391 rfl ?_
      refine gx_iconst C dX12_asked_393 ?_
      refine gx_icmp_ne (tgt := 406) C rx4 (show rng 4 by decide) dX12_asked_394 (by decide) (fun c5 => ?_) (fun c5 => ?_)
      · have h := h.1 c5
        exact b406 S H locs ls hl G h
      · have h := h.2 c5
        refine gx_iload_n C hl dX12_asked_397 rfl ?_
        refine gx_iconst C dX12_asked_398 ?_
        refine gx_icmp_ne (tgt := 406) C rx2 (show rng 1 by decide) dX12_asked_399 (by decide) (fun c6 => ?_) (fun c6 => ?_)
        · have h := h.1 c6
          exact b406 S H locs ls hl G h
        · have h := h.2 c6
          refine gx_iconst C dX12_asked_402 ?_
          refine gx_goto (tgt := 407) C dX12_asked_403 (by decide) ?_
          exact b407 1 S H locs ls (show rng 1 by decide) hl G h
  have b380 : ∀ (w0 : Int) (S : Me) (H : Heap) (locs : List Loc) (ls : Array Slot), rng w0 → lo ad ls [some (.inr (some o)), some (.inl x1), some (.inl x2), some (.inl x3), some (.inl x4), some (.inl x5), none, none, none, none, none] → Gy D cy A s.heap ad V S H locs → B_X12_asked_380 V o x1 x2 x3 x4 x5 w0 S Q → W p l e (rmx 0 0) s m args below meth c H locs 0 0 (qm below D cy ad V A args s (qI Q)) (F0 m 380 ls [vI w0]) := by
    intro w0 S H locs ls rw0 hl G h
    unfold B_X12_asked_380 at h
    refine gx_istore C hl dX12_asked_380 (Nat.le_of_ble_eq_true rfl) (PL' := [some (.inr (some o)), some (.inl x1), some (.inl x2), some (.inl x3), some (.inl x4), some (.inl x5), none, none, none, none, some (.inl w0)]) rfl (fun ls hl => ?_)
    refine gx_goto (tgt := 409) C dX12_asked_382 (by decide) ?_
    exact b409 w0 S H locs ls rw0 hl G h
  have b64 : ∀ (y6 : Int) (y7 : Int) (y8 : Int) (w0 : Int) (S : Me) (H : Heap) (locs : List Loc) (ls : Array Slot), rng y6 → rng y7 → rng y8 → rng w0 → lo ad ls [some (.inr (some o)), some (.inl x1), some (.inl x2), some (.inl x3), some (.inl x4), some (.inl x5), some (.inl y6), some (.inl y7), some (.inl y8), none, none] → Gy D cy A s.heap ad V S H locs → B_X12_asked_64 V o x1 x2 x3 x4 x5 y6 y7 y8 w0 S Q → W p l e (rmx 0 0) s m args below meth c H locs 0 0 (qm below D cy ad V A args s (qI Q)) (F0 m 64 ls [vI w0]) := by
    intro y6 y7 y8 w0 S H locs ls ry6 ry7 ry8 rw0 hl G h
    unfold B_X12_asked_64 at h
    refine gx_istore C hl dX12_asked_64 (Nat.le_of_ble_eq_true rfl) (PL' := [some (.inr (some o)), some (.inl x1), some (.inl x2), some (.inl x3), some (.inl x4), some (.inl x5), some (.inl y6), some (.inl y7), some (.inl y8), some (.inl w0), none]) rfl (fun ls hl => ?_)
    refine gx_iload_n C hl dX12_asked_66 rfl ?_
    by_cases c10 : x1 = 0
    · refine gx_tableIn (tgt := 128) C rx1 dX12_asked_67 0 c10 (by decide) (by decide) rfl (by decide) ?_
      have h := h.1 c10
      refine gx_iload C hl dX12_asked_128 rfl ?_
      refine gx_if_eq (tgt := 146) C ry8 dX12_asked_130 (by decide) (fun c7 => ?_) (fun c7 => ?_)
      · have h := h.1 c7
        exact b146 S H locs ls (lo_mask (bs := [true, true, true, true, true, true, false, false, false, false, false]) hl rfl rfl) G h
      · have h := h.2 c7
        refine gx_iload_n C hl dX12_asked_133 rfl ?_
        refine gx_if_ne (tgt := 146) C rx2 dX12_asked_134 (by decide) (fun c8 => ?_) (fun c8 => ?_)
        · have h := h.1 c8
          exact b146 S H locs ls (lo_mask (bs := [true, true, true, true, true, true, false, false, false, false, false]) hl rfl rfl) G h
        · have h := h.2 c8
          refine gx_iload C hl dX12_asked_137 rfl ?_
          refine gx_if_eq (tgt := 146) C ry6 dX12_asked_139 (by decide) (fun c9 => ?_) (fun c9 => ?_)
          · have h := h.1 c9
            exact b146 S H locs ls (lo_mask (bs := [true, true, true, true, true, true, false, false, false, false, false]) hl rfl rfl) G h
          · have h := h.2 c9
            refine gx_iconst C dX12_asked_142 ?_
            refine gx_goto (tgt := 147) C dX12_asked_143 (by decide) ?_
            exact b147 1 S H locs ls (show rng 1 by decide) (lo_mask (bs := [true, true, true, true, true, true, false, false, false, false, false]) hl rfl rfl) G h
    · by_cases c14 : x1 = 1
      · refine gx_tableIn (tgt := 152) C rx1 dX12_asked_67 1 c14 (by decide) (by decide) rfl (by decide) ?_
        have h := h.2.1 c14
        refine gx_iload C hl dX12_asked_152 rfl ?_
        refine gx_iconst C dX12_asked_154 ?_
        refine gx_icmp_ne (tgt := 171) C rx4 (show rng 1 by decide) dX12_asked_155 (by decide) (fun c11 => ?_) (fun c11 => ?_)
        · have h := h.1 c11
          exact b171 S H locs ls (lo_mask (bs := [true, true, true, true, true, true, false, false, false, false, false]) hl rfl rfl) G h
        · have h := h.2 c11
          refine gx_iload_n C hl dX12_asked_158 rfl ?_
          refine gx_if_ne (tgt := 171) C rx2 dX12_asked_159 (by decide) (fun c12 => ?_) (fun c12 => ?_)
          · have h := h.1 c12
            exact b171 S H locs ls (lo_mask (bs := [true, true, true, true, true, true, false, false, false, false, false]) hl rfl rfl) G h
          · have h := h.2 c12
            refine gx_iload C hl dX12_asked_162 rfl ?_
            refine gx_if_eq (tgt := 171) C ry6 dX12_asked_164 (by decide) (fun c13 => ?_) (fun c13 => ?_)
            · have h := h.1 c13
              exact b171 S H locs ls (lo_mask (bs := [true, true, true, true, true, true, false, false, false, false, false]) hl rfl rfl) G h
            · have h := h.2 c13
              refine gx_iconst C dX12_asked_167 ?_
              refine gx_goto (tgt := 172) C dX12_asked_168 (by decide) ?_
              exact b172 1 S H locs ls (show rng 1 by decide) (lo_mask (bs := [true, true, true, true, true, true, false, false, false, false, false]) hl rfl rfl) G h
      · by_cases c18 : x1 = 2
        · refine gx_tableIn (tgt := 177) C rx1 dX12_asked_67 2 c18 (by decide) (by decide) rfl (by decide) ?_
          have h := h.2.2.1 c18
          refine gx_iload C hl dX12_asked_177 rfl ?_
          refine gx_if_ne (tgt := 196) C rx4 dX12_asked_179 (by decide) (fun c15 => ?_) (fun c15 => ?_)
          · have h := h.1 c15
            exact b196 S H locs ls (lo_mask (bs := [true, true, true, true, true, true, false, false, false, false, false]) hl rfl rfl) G h
          · have h := h.2 c15
            refine gx_iload_n C hl dX12_asked_182 rfl ?_
            refine gx_iconst C dX12_asked_183 ?_
            refine gx_icmp_ne (tgt := 196) C rx2 (show rng 1 by decide) dX12_asked_184 (by decide) (fun c16 => ?_) (fun c16 => ?_)
            · have h := h.1 c16
              exact b196 S H locs ls (lo_mask (bs := [true, true, true, true, true, true, false, false, false, false, false]) hl rfl rfl) G h
            · have h := h.2 c16
              refine gx_iload C hl dX12_asked_187 rfl ?_
              refine gx_if_eq (tgt := 196) C ry6 dX12_asked_189 (by decide) (fun c17 => ?_) (fun c17 => ?_)
              · have h := h.1 c17
                exact b196 S H locs ls (lo_mask (bs := [true, true, true, true, true, true, false, false, false, false, false]) hl rfl rfl) G h
              · have h := h.2 c17
                refine gx_iconst C dX12_asked_192 ?_
                refine gx_goto (tgt := 197) C dX12_asked_193 (by decide) ?_
                exact b197 1 S H locs ls (show rng 1 by decide) (lo_mask (bs := [true, true, true, true, true, true, false, false, false, false, false]) hl rfl rfl) G h
        · by_cases c22 : x1 = 3
          · refine gx_tableIn (tgt := 202) C rx1 dX12_asked_67 3 c22 (by decide) (by decide) rfl (by decide) ?_
            have h := h.2.2.2.1 c22
            refine gx_iload C hl dX12_asked_202 rfl ?_
            refine gx_iconst C dX12_asked_204 ?_
            refine gx_icmp_ne (tgt := 222) C rx4 (show rng 1 by decide) dX12_asked_205 (by decide) (fun c19 => ?_) (fun c19 => ?_)
            · have h := h.1 c19
              exact b222 S H locs ls (lo_mask (bs := [true, true, true, true, true, true, false, false, false, false, false]) hl rfl rfl) G h
            · have h := h.2 c19
              refine gx_iload_n C hl dX12_asked_208 rfl ?_
              refine gx_iconst C dX12_asked_209 ?_
              refine gx_icmp_ne (tgt := 222) C rx2 (show rng 2 by decide) dX12_asked_210 (by decide) (fun c20 => ?_) (fun c20 => ?_)
              · have h := h.1 c20
                exact b222 S H locs ls (lo_mask (bs := [true, true, true, true, true, true, false, false, false, false, false]) hl rfl rfl) G h
              · have h := h.2 c20
                refine gx_iload C hl dX12_asked_213 rfl ?_
                refine gx_if_eq (tgt := 222) C ry6 dX12_asked_215 (by decide) (fun c21 => ?_) (fun c21 => ?_)
                · have h := h.1 c21
                  exact b222 S H locs ls (lo_mask (bs := [true, true, true, true, true, true, false, false, false, false, false]) hl rfl rfl) G h
                · have h := h.2 c21
                  refine gx_iconst C dX12_asked_218 ?_
                  refine gx_goto (tgt := 223) C dX12_asked_219 (by decide) ?_
                  exact b223 1 S H locs ls (show rng 1 by decide) (lo_mask (bs := [true, true, true, true, true, true, false, false, false, false, false]) hl rfl rfl) G h
          · by_cases c26 : x1 = 4
            · refine gx_tableIn (tgt := 228) C rx1 dX12_asked_67 4 c26 (by decide) (by decide) rfl (by decide) ?_
              have h := h.2.2.2.2.1 c26
              refine gx_iload C hl dX12_asked_228 rfl ?_
              refine gx_iconst C dX12_asked_230 ?_
              refine gx_icmp_ne (tgt := 248) C rx4 (show rng 1 by decide) dX12_asked_231 (by decide) (fun c23 => ?_) (fun c23 => ?_)
              · have h := h.1 c23
                exact b248 S H locs ls (lo_mask (bs := [true, true, true, true, true, true, false, false, false, false, false]) hl rfl rfl) G h
              · have h := h.2 c23
                refine gx_iload_n C hl dX12_asked_234 rfl ?_
                refine gx_iconst C dX12_asked_235 ?_
                refine gx_icmp_ne (tgt := 248) C rx2 (show rng 3 by decide) dX12_asked_236 (by decide) (fun c24 => ?_) (fun c24 => ?_)
                · have h := h.1 c24
                  exact b248 S H locs ls (lo_mask (bs := [true, true, true, true, true, true, false, false, false, false, false]) hl rfl rfl) G h
                · have h := h.2 c24
                  refine gx_iload C hl dX12_asked_239 rfl ?_
                  refine gx_if_eq (tgt := 248) C ry6 dX12_asked_241 (by decide) (fun c25 => ?_) (fun c25 => ?_)
                  · have h := h.1 c25
                    exact b248 S H locs ls (lo_mask (bs := [true, true, true, true, true, true, false, false, false, false, false]) hl rfl rfl) G h
                  · have h := h.2 c25
                    refine gx_iconst C dX12_asked_244 ?_
                    refine gx_goto (tgt := 249) C dX12_asked_245 (by decide) ?_
                    exact b249 1 S H locs ls (show rng 1 by decide) (lo_mask (bs := [true, true, true, true, true, true, false, false, false, false, false]) hl rfl rfl) G h
            · by_cases c30 : x1 = 5
              · refine gx_tableIn (tgt := 254) C rx1 dX12_asked_67 5 c30 (by decide) (by decide) rfl (by decide) ?_
                have h := h.2.2.2.2.2.1 c30
                refine gx_iload C hl dX12_asked_254 rfl ?_
                refine gx_if_eq (tgt := 273) C ry8 dX12_asked_256 (by decide) (fun c27 => ?_) (fun c27 => ?_)
                · have h := h.1 c27
                  exact b273 S H locs ls (lo_mask (bs := [true, true, true, true, true, true, false, false, false, false, false]) hl rfl rfl) G h
                · have h := h.2 c27
                  refine gx_iload C hl dX12_asked_259 rfl ?_
                  refine gx_if_eq (tgt := 273) C rw0 dX12_asked_261 (by decide) (fun c28 => ?_) (fun c28 => ?_)
                  · have h := h.1 c28
                    exact b273 S H locs ls (lo_mask (bs := [true, true, true, true, true, true, false, false, false, false, false]) hl rfl rfl) G h
                  · have h := h.2 c28
                    refine gx_iload C hl dX12_asked_264 rfl ?_
                    refine gx_if_eq (tgt := 273) C ry7 dX12_asked_266 (by decide) (fun c29 => ?_) (fun c29 => ?_)
                    · have h := h.1 c29
                      exact b273 S H locs ls (lo_mask (bs := [true, true, true, true, true, true, false, false, false, false, false]) hl rfl rfl) G h
                    · have h := h.2 c29
                      refine gx_iconst C dX12_asked_269 ?_
                      refine gx_goto (tgt := 274) C dX12_asked_270 (by decide) ?_
                      exact b274 1 S H locs ls (show rng 1 by decide) (lo_mask (bs := [true, true, true, true, true, true, false, false, false, false, false]) hl rfl rfl) G h
              · by_cases c34 : x1 = 6
                · refine gx_tableIn (tgt := 279) C rx1 dX12_asked_67 6 c34 (by decide) (by decide) rfl (by decide) ?_
                  have h := h.2.2.2.2.2.2.1 c34
                  refine gx_iload C hl dX12_asked_279 rfl ?_
                  refine gx_if_eq (tgt := 298) C ry8 dX12_asked_281 (by decide) (fun c31 => ?_) (fun c31 => ?_)
                  · have h := h.1 c31
                    exact b298 S H locs ls (lo_mask (bs := [true, true, true, true, true, true, false, false, false, false, false]) hl rfl rfl) G h
                  · have h := h.2 c31
                    refine gx_iload C hl dX12_asked_284 rfl ?_
                    refine gx_if_eq (tgt := 298) C rw0 dX12_asked_286 (by decide) (fun c32 => ?_) (fun c32 => ?_)
                    · have h := h.1 c32
                      exact b298 S H locs ls (lo_mask (bs := [true, true, true, true, true, true, false, false, false, false, false]) hl rfl rfl) G h
                    · have h := h.2 c32
                      refine gx_iload C hl dX12_asked_289 rfl ?_
                      refine gx_if_ne (tgt := 298) C ry7 dX12_asked_291 (by decide) (fun c33 => ?_) (fun c33 => ?_)
                      · have h := h.1 c33
                        exact b298 S H locs ls (lo_mask (bs := [true, true, true, true, true, true, false, false, false, false, false]) hl rfl rfl) G h
                      · have h := h.2 c33
                        refine gx_iconst C dX12_asked_294 ?_
                        refine gx_goto (tgt := 299) C dX12_asked_295 (by decide) ?_
                        exact b299 1 S H locs ls (show rng 1 by decide) (lo_mask (bs := [true, true, true, true, true, true, false, false, false, false, false]) hl rfl rfl) G h
                · by_cases c37 : x1 = 7
                  · refine gx_tableIn (tgt := 304) C rx1 dX12_asked_67 7 c37 (by decide) (by decide) rfl (by decide) ?_
                    have h := h.2.2.2.2.2.2.2.1 c37
                    refine gx_iload C hl dX12_asked_304 rfl ?_
                    refine gx_iconst C dX12_asked_306 ?_
                    refine gx_icmp_ne (tgt := 319) C rx4 (show rng 3 by decide) dX12_asked_307 (by decide) (fun c35 => ?_) (fun c35 => ?_)
                    · have h := h.1 c35
                      exact b319 S H locs ls (lo_mask (bs := [true, true, true, true, true, true, false, false, false, false, false]) hl rfl rfl) G h
                    · have h := h.2 c35
                      refine gx_iload_n C hl dX12_asked_310 rfl ?_
                      refine gx_iconst C dX12_asked_311 ?_
                      refine gx_icmp_ne (tgt := 319) C rx2 (show rng 2 by decide) dX12_asked_312 (by decide) (fun c36 => ?_) (fun c36 => ?_)
                      · have h := h.1 c36
                        exact b319 S H locs ls (lo_mask (bs := [true, true, true, true, true, true, false, false, false, false, false]) hl rfl rfl) G h
                      · have h := h.2 c36
                        refine gx_iconst C dX12_asked_315 ?_
                        refine gx_goto (tgt := 320) C dX12_asked_316 (by decide) ?_
                        exact b320 1 S H locs ls (show rng 1 by decide) (lo_mask (bs := [true, true, true, true, true, true, false, false, false, false, false]) hl rfl rfl) G h
                  · by_cases c40 : x1 = 8
                    · refine gx_tableIn (tgt := 325) C rx1 dX12_asked_67 8 c40 (by decide) (by decide) rfl (by decide) ?_
                      have h := h.2.2.2.2.2.2.2.2.1 c40
                      refine gx_iload C hl dX12_asked_325 rfl ?_
                      refine gx_iconst C dX12_asked_327 ?_
                      refine gx_icmp_ne (tgt := 340) C rx4 (show rng 2 by decide) dX12_asked_328 (by decide) (fun c38 => ?_) (fun c38 => ?_)
                      · have h := h.1 c38
                        exact b340 S H locs ls (lo_mask (bs := [true, true, true, true, true, true, false, false, false, false, false]) hl rfl rfl) G h
                      · have h := h.2 c38
                        refine gx_iload_n C hl dX12_asked_331 rfl ?_
                        refine gx_iconst C dX12_asked_332 ?_
                        refine gx_icmp_ne (tgt := 340) C rx2 (show rng 3 by decide) dX12_asked_333 (by decide) (fun c39 => ?_) (fun c39 => ?_)
                        · have h := h.1 c39
                          exact b340 S H locs ls (lo_mask (bs := [true, true, true, true, true, true, false, false, false, false, false]) hl rfl rfl) G h
                        · have h := h.2 c39
                          refine gx_iconst C dX12_asked_336 ?_
                          refine gx_goto (tgt := 341) C dX12_asked_337 (by decide) ?_
                          exact b341 1 S H locs ls (show rng 1 by decide) (lo_mask (bs := [true, true, true, true, true, true, false, false, false, false, false]) hl rfl rfl) G h
                    · by_cases c44 : x1 = 9
                      · refine gx_tableIn (tgt := 346) C rx1 dX12_asked_67 9 c44 (by decide) (by decide) rfl (by decide) ?_
                        have h := h.2.2.2.2.2.2.2.2.2.1 c44
                        refine gx_iload C hl dX12_asked_346 rfl ?_
                        refine gx_if_ne (tgt := 364) C rx4 dX12_asked_348 (by decide) (fun c41 => ?_) (fun c41 => ?_)
                        · have h := h.1 c41
                          exact b364 S H locs ls (lo_mask (bs := [true, true, true, true, true, true, false, false, false, false, false]) hl rfl rfl) G h
                        · have h := h.2 c41
                          refine gx_iload_n C hl dX12_asked_351 rfl ?_
                          refine gx_if_ne (tgt := 364) C rx2 dX12_asked_352 (by decide) (fun c42 => ?_) (fun c42 => ?_)
                          · have h := h.1 c42
                            exact b364 S H locs ls (lo_mask (bs := [true, true, true, true, true, true, false, false, false, false, false]) hl rfl rfl) G h
                          · have h := h.2 c42
                            refine gx_iload C hl dX12_asked_355 rfl ?_
                            refine gx_if_ne (tgt := 364) C ry6 dX12_asked_357 (by decide) (fun c43 => ?_) (fun c43 => ?_)
                            · have h := h.1 c43
                              exact b364 S H locs ls (lo_mask (bs := [true, true, true, true, true, true, false, false, false, false, false]) hl rfl rfl) G h
                            · have h := h.2 c43
                              refine gx_iconst C dX12_asked_360 ?_
                              refine gx_goto (tgt := 365) C dX12_asked_361 (by decide) ?_
                              exact b365 1 S H locs ls (show rng 1 by decide) (lo_mask (bs := [true, true, true, true, true, true, false, false, false, false, false]) hl rfl rfl) G h
                      · by_cases c45 : x1 = 10
                        · refine gx_tableIn (tgt := 385) C rx1 dX12_asked_67 10 c45 (by decide) (by decide) rfl (by decide) ?_
                          have h := h.2.2.2.2.2.2.2.2.2.2.1 c45
                          exact b385 S H locs ls (lo_mask (bs := [true, true, true, true, true, true, false, false, false, false, false]) hl rfl rfl) G h
                        · by_cases c47 : x1 = 11
                          · refine gx_tableIn (tgt := 370) C rx1 dX12_asked_67 11 c47 (by decide) (by decide) rfl (by decide) ?_
                            have h := h.2.2.2.2.2.2.2.2.2.2.2.1 c47
                            refine gx_iload_n C hl dX12_asked_370 rfl ?_
                            refine gx_iconst C dX12_asked_371 ?_
                            refine gx_icmp_ne (tgt := 379) C rx2 (show rng 4 by decide) dX12_asked_372 (by decide) (fun c46 => ?_) (fun c46 => ?_)
                            · have h := h.1 c46
                              refine gx_iconst C dX12_asked_379 ?_
                              exact b380 0 S H locs ls (show rng 0 by decide) (lo_mask (bs := [true, true, true, true, true, true, false, false, false, false, false]) hl rfl rfl) G h
                            · have h := h.2 c46
                              refine gx_iconst C dX12_asked_375 ?_
                              refine gx_goto (tgt := 380) C dX12_asked_376 (by decide) ?_
                              exact b380 1 S H locs ls (show rng 1 by decide) (lo_mask (bs := [true, true, true, true, true, true, false, false, false, false, false]) hl rfl rfl) G h
                          · have c48 : x1 < 0 ∨ 11 < x1 := by omega
                            refine gx_tableOut (tgt := 385) C rx1 dX12_asked_67 c48 (by decide) ?_
                            have h := h.2.2.2.2.2.2.2.2.2.2.2.2 c48
                            exact b385 S H locs ls (lo_mask (bs := [true, true, true, true, true, true, false, false, false, false, false]) hl rfl rfl) G h
  have b59 : ∀ (y6 : Int) (y7 : Int) (y8 : Int) (S : Me) (H : Heap) (locs : List Loc) (ls : Array Slot), rng y6 → rng y7 → rng y8 → lo ad ls [some (.inr (some o)), some (.inl x1), some (.inl x2), some (.inl x3), some (.inl x4), some (.inl x5), some (.inl y6), some (.inl y7), some (.inl y8), none, none] → Gy D cy A s.heap ad V S H locs → B_X12_asked_59 V o x1 x2 x3 x4 x5 y6 y7 y8 S Q → W p l e (rmx 0 0) s m args below meth c H locs 0 0 (qm below D cy ad V A args s (qI Q)) (F0 m 59 ls []) := by
    intro y6 y7 y8 S H locs ls ry6 ry7 ry8 hl G h
    unfold B_X12_asked_59 at h
    refine gx_iconst C dX12_asked_59 ?_
    refine gx_goto (tgt := 64) C dX12_asked_60 (by decide) ?_
    exact b64 y6 y7 y8 1 S H locs ls ry6 ry7 ry8 (show rng 1 by decide) hl G h
  have b47 : ∀ (y6 : Int) (y7 : Int) (w0 : Int) (S : Me) (H : Heap) (locs : List Loc) (ls : Array Slot), rng y6 → rng y7 → rng w0 → lo ad ls [some (.inr (some o)), some (.inl x1), some (.inl x2), some (.inl x3), some (.inl x4), some (.inl x5), some (.inl y6), some (.inl y7), none, none, none] → Gy D cy A s.heap ad V S H locs → B_X12_asked_47 V o x1 x2 x3 x4 x5 y6 y7 w0 S Q → W p l e (rmx 0 0) s m args below meth c H locs 0 0 (qm below D cy ad V A args s (qI Q)) (F0 m 47 ls [vI w0]) := by
    intro y6 y7 w0 S H locs ls ry6 ry7 rw0 hl G h
    unfold B_X12_asked_47 at h
    refine gx_istore C hl dX12_asked_47 (Nat.le_of_ble_eq_true rfl) (PL' := [some (.inr (some o)), some (.inl x1), some (.inl x2), some (.inl x3), some (.inl x4), some (.inl x5), some (.inl y6), some (.inl y7), some (.inl w0), none, none]) rfl (fun ls hl => ?_)
    refine gx_iload_n C hl dX12_asked_49 rfl ?_
    refine gx_iconst C dX12_asked_50 ?_
    refine gx_icmp_eq (tgt := 59) C rx2 (show rng 2 by decide) dX12_asked_51 (by decide) (fun c49 => ?_) (fun c49 => ?_)
    · have h := h.1 c49
      exact b59 y6 y7 w0 S H locs ls ry6 ry7 rw0 hl G h
    · have h := h.2 c49
      refine gx_iload_n C hl dX12_asked_54 rfl ?_
      refine gx_iconst C dX12_asked_55 ?_
      refine gx_icmp_ne (tgt := 63) C rx2 (show rng 3 by decide) dX12_asked_56 (by decide) (fun c50 => ?_) (fun c50 => ?_)
      · have h := h.1 c50
        refine gx_iconst C dX12_asked_63 ?_
        exact b64 y6 y7 w0 0 S H locs ls ry6 ry7 rw0 (show rng 0 by decide) hl G h
      · have h := h.2 c50
        exact b59 y6 y7 w0 S H locs ls ry6 ry7 rw0 hl G h
  have b42 : ∀ (y6 : Int) (y7 : Int) (S : Me) (H : Heap) (locs : List Loc) (ls : Array Slot), rng y6 → rng y7 → lo ad ls [some (.inr (some o)), some (.inl x1), some (.inl x2), some (.inl x3), some (.inl x4), some (.inl x5), some (.inl y6), some (.inl y7), none, none, none] → Gy D cy A s.heap ad V S H locs → B_X12_asked_42 V o x1 x2 x3 x4 x5 y6 y7 S Q → W p l e (rmx 0 0) s m args below meth c H locs 0 0 (qm below D cy ad V A args s (qI Q)) (F0 m 42 ls []) := by
    intro y6 y7 S H locs ls ry6 ry7 hl G h
    unfold B_X12_asked_42 at h
    refine gx_iconst C dX12_asked_42 ?_
    refine gx_goto (tgt := 47) C dX12_asked_43 (by decide) ?_
    exact b47 y6 y7 1 S H locs ls ry6 ry7 (show rng 1 by decide) hl G h
  have b28 : ∀ (y6 : Int) (w0 : Int) (S : Me) (H : Heap) (locs : List Loc) (ls : Array Slot), rng y6 → rng w0 → lo ad ls [some (.inr (some o)), some (.inl x1), some (.inl x2), some (.inl x3), some (.inl x4), some (.inl x5), some (.inl y6), none, none, none, none] → Gy D cy A s.heap ad V S H locs → B_X12_asked_28 V o x1 x2 x3 x4 x5 y6 w0 S Q → W p l e (rmx 0 0) s m args below meth c H locs 0 0 (qm below D cy ad V A args s (qI Q)) (F0 m 28 ls [vI w0]) := by
    intro y6 w0 S H locs ls ry6 rw0 hl G h
    unfold B_X12_asked_28 at h
    refine gx_istore C hl dX12_asked_28 (Nat.le_of_ble_eq_true rfl) (PL' := [some (.inr (some o)), some (.inl x1), some (.inl x2), some (.inl x3), some (.inl x4), some (.inl x5), some (.inl y6), some (.inl w0), none, none, none]) rfl (fun ls hl => ?_)
    refine gx_iload C hl dX12_asked_30 rfl ?_
    refine gx_iconst C dX12_asked_32 ?_
    refine gx_icmp_eq (tgt := 42) C rx4 (show rng 2 by decide) dX12_asked_33 (by decide) (fun c51 => ?_) (fun c51 => ?_)
    · have h := h.1 c51
      exact b42 y6 w0 S H locs ls ry6 rw0 hl G h
    · have h := h.2 c51
      refine gx_iload C hl dX12_asked_36 rfl ?_
      refine gx_iconst C dX12_asked_38 ?_
      refine gx_icmp_ne (tgt := 46) C rx4 (show rng 3 by decide) dX12_asked_39 (by decide) (fun c52 => ?_) (fun c52 => ?_)
      · have h := h.1 c52
        refine gx_iconst C dX12_asked_46 ?_
        exact b47 y6 w0 0 S H locs ls ry6 rw0 (show rng 0 by decide) hl G h
      · have h := h.2 c52
        exact b42 y6 w0 S H locs ls ry6 rw0 hl G h
  have b11 : ∀ (w0 : Int) (S : Me) (H : Heap) (locs : List Loc) (ls : Array Slot), rng w0 → lo ad ls [some (.inr (some o)), some (.inl x1), some (.inl x2), some (.inl x3), some (.inl x4), some (.inl x5), none, none, none, none, none] → Gy D cy A s.heap ad V S H locs → B_X12_asked_11 V o x1 x2 x3 x4 x5 w0 S Q → W p l e (rmx 0 0) s m args below meth c H locs 0 0 (qm below D cy ad V A args s (qI Q)) (F0 m 11 ls [vI w0]) := by
    intro w0 S H locs ls rw0 hl G h
    unfold B_X12_asked_11 at h
    refine gx_istore C hl dX12_asked_11 (Nat.le_of_ble_eq_true rfl) (PL' := [some (.inr (some o)), some (.inl x1), some (.inl x2), some (.inl x3), some (.inl x4), some (.inl x5), some (.inl w0), none, none, none, none]) rfl (fun ls hl => ?_)
    refine gx_iload_n C hl dX12_asked_13 rfl ?_
    refine gx_iconst C dX12_asked_14 ?_
    refine gx_idiv C rx3 (show rng 2 by decide) (by decide) dX12_asked_15 ?_
    refine gx_iload C hl dX12_asked_16 rfl ?_
    refine gx_iconst C dX12_asked_18 ?_
    refine gx_idiv C rx5 (show rng 2 by decide) (by decide) dX12_asked_19 ?_
    refine gx_icmp_ne (tgt := 27) C (rg_dv rx3 (by decide)) (rg_dv rx5 (by decide)) dX12_asked_20 (by decide) (fun c53 => ?_) (fun c53 => ?_)
    · have h := h.1 c53
      refine gx_iconst C dX12_asked_27 ?_
      exact b28 w0 0 S H locs ls rw0 (show rng 0 by decide) hl G h
    · have h := h.2 c53
      refine gx_iconst C dX12_asked_23 ?_
      refine gx_goto (tgt := 28) C dX12_asked_24 (by decide) ?_
      exact b28 w0 1 S H locs ls rw0 (show rng 1 by decide) hl G h
  clear eA
  unfold PT_X12_asked at h
  refine gx_iload_n C hl dX12_asked_0 rfl ?_
  refine gx_iload C hl dX12_asked_1 rfl ?_
  refine gx_icmp_ne (tgt := 10) C rx3 rx5 dX12_asked_3 (by decide) (fun c54 => ?_) (fun c54 => ?_)
  · have h := h.1 c54
    refine gx_iconst C dX12_asked_10 ?_
    exact b11 0 S H locs ls (show rng 0 by decide) hl G h
  · have h := h.2 c54
    refine gx_iconst C dX12_asked_6 ?_
    refine gx_goto (tgt := 11) C dX12_asked_7 (by decide) ?_
    exact b11 1 S H locs ls (show rng 1 by decide) hl G h
def B_X12_fits_135 (V : Vt) (o : Nat) (x1 : Int) (x2 : Int) (x3 : Int) (K11 : Int → Int → Me → Prop) (y4 : Int) (y5 : Int) (S : Me) (Q : Int → Me → Prop) : Prop := (rng (y5 + (-1))) ∧ K11 y4 (y5 + (-1)) S
def B_X12_fits_92 (V : Vt) (o : Nat) (x1 : Int) (x2 : Int) (x3 : Int) (K11 : Int → Int → Me → Prop) (K49 : Int → Int → Int → Int → Int → Me → Prop) (y4 : Int) (y5 : Int) (y6 : Int) (y7 : Int) (y8 : Int) (S : Me) (Q : Int → Me → Prop) : Prop := (rng (y8 + 1)) ∧ K49 y4 y5 y6 y7 (y8 + 1) S
def B_X12_fits_49 (V : Vt) (o : Nat) (x1 : Int) (x2 : Int) (x3 : Int) (K11 : Int → Int → Me → Prop) (Q : Int → Me → Prop) : Nat → (Int → Int → Int → Int → Int → Me → Prop)
  | 0 => fun _ _ _ _ _ _ => False
  | n + 1 => fun y4 y5 y6 y7 y8 S => ((13 ≤ y8 → (0 ≤ y6 ∧ y6 < 40) ∧ ((¬ (S.1 (o + 14) (Int.toNat y6)) = 0 → B_X12_fits_135 V o x1 x2 x3 K11 y4 y5 S Q) ∧ ((S.1 (o + 14) (Int.toNat y6)) = 0 → ((¬ x1 = 0 → B_X12_fits_135 V o x1 x2 x3 K11 y4 y5 S Q) ∧ (x1 = 0 → (rng (y4 + 1)) ∧ ((¬ (y4 + 1) = 4 → B_X12_fits_135 V o x1 x2 x3 K11 (y4 + 1) y5 S Q) ∧ ((y4 + 1) = 4 → (((S.1 (o + 1) (Int.toNat 10)) ≤ y7 → B_X12_fits_135 V o x1 x2 x3 K11 (y4 + 1) y5 S Q) ∧ (¬ (S.1 (o + 1) (Int.toNat 10)) ≤ y7 → Q 0 S))))))))) ∧ (¬ 13 ≤ y8 → ((y8 = 10 → B_X12_fits_92 V o x1 x2 x3 K11 (B_X12_fits_49 V o x1 x2 x3 K11 Q n) y4 y5 y6 y7 y8 S Q) ∧ (¬ y8 = 10 → (0 ≤ y6 ∧ y6 < 40) ∧ (0 ≤ y6 ∧ y6 < 40) ∧ PT_X12_asked V o y8 (S.1 (o + 14) (Int.toNat y6)) (S.1 (o + 15) (Int.toNat y6)) x1 x2 S (fun t18 S17 => ((t18 ≤ y7 → B_X12_fits_92 V o x1 x2 x3 K11 (B_X12_fits_49 V o x1 x2 x3 K11 Q n) y4 y5 y6 y7 y8 S17 Q) ∧ (¬ t18 ≤ y7 → Q 0 S17)))))))
def B_X12_fits_11 (V : Vt) (o : Nat) (x1 : Int) (x2 : Int) (x3 : Int) (Q : Int → Me → Prop) : Nat → (Int → Int → Me → Prop)
  | 0 => fun _ _ _ => False
  | n + 1 => fun y4 y5 S => ((y5 < 0 → Q 1 S) ∧ (¬ y5 < 0 → (rng ((S.1 o 26) - 41)) ∧ ((y5 ≤ ((S.1 o 26) - 41) → Q 1 S) ∧ (¬ y5 ≤ ((S.1 o 26) - 41) → (0 ≤ (Int.tmod y5 40) ∧ (Int.tmod y5 40) < 40) ∧ (rng (x3 - (S.1 (o + 13) (Int.toNat (Int.tmod y5 40))))) ∧ (∃ n9 : Nat, B_X12_fits_49 V o x1 x2 x3 (B_X12_fits_11 V o x1 x2 x3 Q n) Q n9 y4 y5 (Int.tmod y5 40) (x3 - (S.1 (o + 13) (Int.toNat (Int.tmod y5 40)))) 0 S)))))
def PT_X12_fits (V : Vt) (o : Nat) (x1 : Int) (x2 : Int) (x3 : Int) (S : Me) (Q : Int → Me → Prop) : Prop := (rng ((S.1 o 26) - 1)) ∧ (∃ n9 : Nat, B_X12_fits_11 V o x1 x2 x3 Q n9 0 ((S.1 o 26) - 1) S)
theorem hd_X12_fits : yX12_fits.cls ≠ "java/lang/invoke/MethodHandle" ∧ yX12_fits.cls ≠ "java/lang/invoke/VarHandle" ∧ (parseMethodDescriptor yX12_fits.desc).map (fun d => d.parameters.length) = some 3 := by decide +kernel
set_option maxHeartbeats 4000000 in
set_option maxRecDepth 100000 in
theorem c_X12_fits (l : Launch) (D : va_G) (cy : ClassId × ClassId × ClassId × ClassId) (ad : Nat → Nat) {V : Vt} {S : Me} {o : Nat} {x1 : Int} {x2 : Int} {x3 : Int} (hV : fX12 V o) (rx1 : rng x1) (rx2 : rng x2) (rx3 : rng x3) {Q : Int → Me → Prop} (h : PT_X12_fits V o x1 x2 x3 S Q) : KM l D cy yX12_fits cX12_fits 9 (Option.some Jvm.ClassFile.FieldType.boolean) 1 30 ad V S [.inr (some o), .inl x1, .inl x2, .inl x3] (qI Q) := by
  refine KM.of (by decide) rfl (Nat.le_of_ble_eq_true rfl) (own := RX12) (fun p e s m args below meth c A ls H locs eA C hret hml hmn hl G => ?_)
  have hl : lo ad ls [some (.inr (some o)), some (.inl x1), some (.inl x2), some (.inl x3), none, none, none, none, none] := hl
  have b135 : ∀ (K11 : Int → Int → Me → Prop) (hK11 : ∀ (y4 : Int) (y5 : Int) (S : Me) (H : Heap) (locs : List Loc) (ls : Array Slot), rng y4 → rng y5 → lo ad ls [some (.inr (some o)), some (.inl x1), some (.inl x2), some (.inl x3), some (.inl y4), some (.inl y5), none, none, none] → Gy D cy A s.heap ad V S H locs → K11 y4 y5 S → W p l e (rmx 1 30) s m args below meth c H locs 0 0 (qm below D cy ad V A args s (qI Q)) (F0 m 11 ls [])) (y4 : Int) (y5 : Int) (S : Me) (H : Heap) (locs : List Loc) (ls : Array Slot), rng y4 → rng y5 → lo ad ls [some (.inr (some o)), some (.inl x1), some (.inl x2), some (.inl x3), some (.inl y4), some (.inl y5), none, none, none] → Gy D cy A s.heap ad V S H locs → B_X12_fits_135 V o x1 x2 x3 K11 y4 y5 S Q → W p l e (rmx 1 30) s m args below meth c H locs 0 0 (qm below D cy ad V A args s (qI Q)) (F0 m 135 ls []) := by
    intro K11 hK11 y4 y5 S H locs ls ry4 ry5 hl G h
    unfold B_X12_fits_135 at h
    obtain ⟨h1, h⟩ := h
    refine gx_iinc C hl dX12_fits_135 rfl (PL' := [some (.inr (some o)), some (.inl x1), some (.inl x2), some (.inl x3), some (.inl y4), some (.inl (y5 + (-1))), none, none, none]) rfl (fun ls hl => ?_)
    refine gx_goto (tgt := 11) C dX12_fits_138 (by decide) ?_
    exact hK11 y4 (y5 + (-1)) S H locs ls ry4 h1 hl G h
  have b92 : ∀ (K11 : Int → Int → Me → Prop) (hK11 : ∀ (y4 : Int) (y5 : Int) (S : Me) (H : Heap) (locs : List Loc) (ls : Array Slot), rng y4 → rng y5 → lo ad ls [some (.inr (some o)), some (.inl x1), some (.inl x2), some (.inl x3), some (.inl y4), some (.inl y5), none, none, none] → Gy D cy A s.heap ad V S H locs → K11 y4 y5 S → W p l e (rmx 1 30) s m args below meth c H locs 0 0 (qm below D cy ad V A args s (qI Q)) (F0 m 11 ls [])) (K49 : Int → Int → Int → Int → Int → Me → Prop) (hK49 : ∀ (y4 : Int) (y5 : Int) (y6 : Int) (y7 : Int) (y8 : Int) (S : Me) (H : Heap) (locs : List Loc) (ls : Array Slot), rng y4 → rng y5 → rng y6 → rng y7 → rng y8 → lo ad ls [some (.inr (some o)), some (.inl x1), some (.inl x2), some (.inl x3), some (.inl y4), some (.inl y5), some (.inl y6), some (.inl y7), some (.inl y8)] → Gy D cy A s.heap ad V S H locs → K49 y4 y5 y6 y7 y8 S → W p l e (rmx 1 30) s m args below meth c H locs 0 0 (qm below D cy ad V A args s (qI Q)) (F0 m 49 ls [])) (y4 : Int) (y5 : Int) (y6 : Int) (y7 : Int) (y8 : Int) (S : Me) (H : Heap) (locs : List Loc) (ls : Array Slot), rng y4 → rng y5 → rng y6 → rng y7 → rng y8 → lo ad ls [some (.inr (some o)), some (.inl x1), some (.inl x2), some (.inl x3), some (.inl y4), some (.inl y5), some (.inl y6), some (.inl y7), some (.inl y8)] → Gy D cy A s.heap ad V S H locs → B_X12_fits_92 V o x1 x2 x3 K11 K49 y4 y5 y6 y7 y8 S Q → W p l e (rmx 1 30) s m args below meth c H locs 0 0 (qm below D cy ad V A args s (qI Q)) (F0 m 92 ls []) := by
    intro K11 hK11 K49 hK49 y4 y5 y6 y7 y8 S H locs ls ry4 ry5 ry6 ry7 ry8 hl G h
    unfold B_X12_fits_92 at h
    obtain ⟨h2, h⟩ := h
    refine gx_iinc C hl dX12_fits_92 rfl (PL' := [some (.inr (some o)), some (.inl x1), some (.inl x2), some (.inl x3), some (.inl y4), some (.inl y5), some (.inl y6), some (.inl y7), some (.inl (y8 + 1))]) rfl (fun ls hl => ?_)
    refine gx_goto (tgt := 49) C dX12_fits_95 (by decide) ?_
    exact hK49 y4 y5 y6 y7 (y8 + 1) S H locs ls ry4 ry5 ry6 ry7 h2 hl G h
  have b49 : ∀ (K11 : Int → Int → Me → Prop) (hK11 : ∀ (y4 : Int) (y5 : Int) (S : Me) (H : Heap) (locs : List Loc) (ls : Array Slot), rng y4 → rng y5 → lo ad ls [some (.inr (some o)), some (.inl x1), some (.inl x2), some (.inl x3), some (.inl y4), some (.inl y5), none, none, none] → Gy D cy A s.heap ad V S H locs → K11 y4 y5 S → W p l e (rmx 1 30) s m args below meth c H locs 0 0 (qm below D cy ad V A args s (qI Q)) (F0 m 11 ls [])) (n : Nat) (y4 : Int) (y5 : Int) (y6 : Int) (y7 : Int) (y8 : Int) (S : Me) (H : Heap) (locs : List Loc) (ls : Array Slot), rng y4 → rng y5 → rng y6 → rng y7 → rng y8 → lo ad ls [some (.inr (some o)), some (.inl x1), some (.inl x2), some (.inl x3), some (.inl y4), some (.inl y5), some (.inl y6), some (.inl y7), some (.inl y8)] → Gy D cy A s.heap ad V S H locs → B_X12_fits_49 V o x1 x2 x3 K11 Q n y4 y5 y6 y7 y8 S → W p l e (rmx 1 30) s m args below meth c H locs 0 0 (qm below D cy ad V A args s (qI Q)) (F0 m 49 ls []) := by
    intro K11 hK11 n
    induction n with
    | zero =>
      intro y4 y5 y6 y7 y8 S H locs ls ry4 ry5 ry6 ry7 ry8 hl G h
      exact absurd h id
    | succ n ih =>
      intro y4 y5 y6 y7 y8 S H locs ls ry4 ry5 ry6 ry7 ry8 hl G h
      rw [B_X12_fits_49] at h
      refine gx_iload C hl dX12_fits_49 rfl ?_
      refine gx_bipush C dX12_fits_51 (by decide) ?_
      refine gx_icmp_ge (tgt := 98) C ry8 (show rng 13 by decide) dX12_fits_53 (by decide) (fun c3 => ?_) (fun c3 => ?_)
      · have h := h.1 c3
        refine gx_aload_n C hl dX12_fits_98 rfl ?_
        refine gx_getF C G rfl (fX12_o hV) (fo11_28 (fX12_c hV)) (fX12_recentWhat hV) uw_983 (fun _ h9 => h9) dX12_fits_99 ?_
        refine gx_iload C hl dX12_fits_102 rfl ?_
        obtain ⟨h4, h⟩ := h
        refine gx_iald C G rfl (fX12_recentWhat_l hV) (fX12_recentWhat_t hV) ry6 h4.1 (ixl (fX12_recentWhat_n hV) h4.2) dX12_fits_104 ?_
        have r5 := G.r (o + 14) (Int.toNat y6)
        refine gx_if_ne (tgt := 135) C r5 dX12_fits_105 (by decide) (fun c6 => ?_) (fun c6 => ?_)
        · have h := h.1 c6
          exact b135 K11 hK11 y4 y5 S H locs ls ry4 ry5 (lo_mask (bs := [true, true, true, true, true, true, false, false, false]) hl rfl rfl) G h
        · have h := h.2 c6
          refine gx_iload_n C hl dX12_fits_108 rfl ?_
          refine gx_if_ne (tgt := 135) C rx1 dX12_fits_109 (by decide) (fun c7 => ?_) (fun c7 => ?_)
          · have h := h.1 c7
            exact b135 K11 hK11 y4 y5 S H locs ls ry4 ry5 (lo_mask (bs := [true, true, true, true, true, true, false, false, false]) hl rfl rfl) G h
          · have h := h.2 c7
            obtain ⟨h8, h⟩ := h
            refine gx_iinc C hl dX12_fits_112 rfl (PL' := [some (.inr (some o)), some (.inl x1), some (.inl x2), some (.inl x3), some (.inl (y4 + 1)), some (.inl y5), some (.inl y6), some (.inl y7), some (.inl y8)]) rfl (fun ls hl => ?_)
            refine gx_iload C hl dX12_fits_115 rfl ?_
            refine gx_iconst C dX12_fits_117 ?_
            refine gx_icmp_ne (tgt := 135) C h8 (show rng 4 by decide) dX12_fits_118 (by decide) (fun c9 => ?_) (fun c9 => ?_)
            · have h := h.1 c9
              exact b135 K11 hK11 (y4 + 1) y5 S H locs ls h8 ry5 (lo_mask (bs := [true, true, true, true, true, true, false, false, false]) hl rfl rfl) G h
            · have h := h.2 c9
              refine gx_iload C hl dX12_fits_121 rfl ?_
              refine gx_aload_n C hl dX12_fits_123 rfl ?_
              refine gx_getF C G rfl (fX12_o hV) (fo11_1 (fX12_c hV)) (fX12_time hV) uw_956 (fun _ h9 => h9) dX12_fits_124 ?_
              refine gx_bipush C dX12_fits_127 (by decide) ?_
              refine gx_iald C G rfl (fX12_time_l hV) (fX12_time_t hV) (show rng 10 by decide) (by decide) (ixl (fX12_time_n hV) (by decide)) dX12_fits_129 ?_
              have r10 := G.r (o + 1) (Int.toNat 10)
              refine gx_icmp_ge (tgt := 135) C ry7 r10 dX12_fits_130 (by decide) (fun c11 => ?_) (fun c11 => ?_)
              · have h := h.1 c11
                exact b135 K11 hK11 (y4 + 1) y5 S H locs ls h8 ry5 (lo_mask (bs := [true, true, true, true, true, true, false, false, false]) hl rfl rfl) G h
              · have h := h.2 c11
                refine gx_iconst C dX12_fits_133 ?_
                exact gx_zret C G hret (Or.inl rfl) h dX12_fits_134
      · have h := h.2 c3
        refine gx_iload C hl dX12_fits_56 rfl ?_
        refine gx_bipush C dX12_fits_58 (by decide) ?_
        refine gx_icmp_eq (tgt := 92) C ry8 (show rng 10 by decide) dX12_fits_60 (by decide) (fun c12 => ?_) (fun c12 => ?_)
        · have h := h.1 c12
          exact b92 K11 hK11 (B_X12_fits_49 V o x1 x2 x3 K11 Q n) ih y4 y5 y6 y7 y8 S H locs ls ry4 ry5 ry6 ry7 ry8 hl G h
        · have h := h.2 c12
          refine gx_iload C hl dX12_fits_63 rfl ?_
          refine gx_aload_n C hl dX12_fits_65 rfl ?_
          refine gx_iload C hl dX12_fits_66 rfl ?_
          refine gx_aload_n C hl dX12_fits_68 rfl ?_
          refine gx_getF C G rfl (fX12_o hV) (fo11_28 (fX12_c hV)) (fX12_recentWhat hV) uw_983 (fun _ h9 => h9) dX12_fits_69 ?_
          refine gx_iload C hl dX12_fits_72 rfl ?_
          obtain ⟨h13, h⟩ := h
          refine gx_iald C G rfl (fX12_recentWhat_l hV) (fX12_recentWhat_t hV) ry6 h13.1 (ixl (fX12_recentWhat_n hV) h13.2) dX12_fits_74 ?_
          have r14 := G.r (o + 14) (Int.toNat y6)
          refine gx_aload_n C hl dX12_fits_75 rfl ?_
          refine gx_getF C G rfl (fX12_o hV) (fo11_29 (fX12_c hV)) (fX12_recentBank hV) uw_984 (fun _ h9 => h9) dX12_fits_76 ?_
          refine gx_iload C hl dX12_fits_79 rfl ?_
          obtain ⟨h15, h⟩ := h
          refine gx_iald C G rfl (fX12_recentBank_l hV) (fX12_recentBank_t hV) ry6 h15.1 (ixl (fX12_recentBank_n hV) h15.2) dX12_fits_81 ?_
          have r16 := G.r (o + 15) (Int.toNat y6)
          refine gx_iload_n C hl dX12_fits_82 rfl ?_
          refine gx_iload_n C hl dX12_fits_83 rfl ?_
          refine gx_callV C G hl hml (c_X12_asked l D cy ad hV ry8 r14 r16 rx1 rx2 h) rfl (fX12_o hV) (by rw [(fX12_c hV)]; rfl) (by rw [(fX12_c hV)]; decide) rfl uw_1221 uw_1218 uw_1220 up_30 uw_9 hd_X12_asked ⟨Nat.le_of_ble_eq_true rfl, Nat.le_of_ble_eq_true rfl⟩ ⟨Nat.zero_le _, Nat.zero_le _⟩ rfl rfl (hw_le ad [.inl y7] rfl (Nat.le_of_ble_eq_true rfl)) dX12_fits_84 (kkI (fun t18 S17 H locs rt18 h G => ?_))
          refine gx_icmp_ge (tgt := 92) C ry7 rt18 dX12_fits_87 (by decide) (fun c19 => ?_) (fun c19 => ?_)
          · have h := h.1 c19
            exact b92 K11 hK11 (B_X12_fits_49 V o x1 x2 x3 K11 Q n) ih y4 y5 y6 y7 y8 S17 H locs ls ry4 ry5 ry6 ry7 ry8 hl G h
          · have h := h.2 c19
            refine gx_iconst C dX12_fits_90 ?_
            exact gx_zret C G hret (Or.inl rfl) h dX12_fits_91
  have b11 : ∀ (n : Nat) (y4 : Int) (y5 : Int) (S : Me) (H : Heap) (locs : List Loc) (ls : Array Slot), rng y4 → rng y5 → lo ad ls [some (.inr (some o)), some (.inl x1), some (.inl x2), some (.inl x3), some (.inl y4), some (.inl y5), none, none, none] → Gy D cy A s.heap ad V S H locs → B_X12_fits_11 V o x1 x2 x3 Q n y4 y5 S → W p l e (rmx 1 30) s m args below meth c H locs 0 0 (qm below D cy ad V A args s (qI Q)) (F0 m 11 ls []) := by
    intro n
    induction n with
    | zero =>
      intro y4 y5 S H locs ls ry4 ry5 hl G h
      exact absurd h id
    | succ n ih =>
      intro y4 y5 S H locs ls ry4 ry5 hl G h
      rw [B_X12_fits_11] at h
      refine gx_iload C hl dX12_fits_11 rfl ?_
      refine gx_if_lt (tgt := 141) C ry5 dX12_fits_13 (by decide) (fun c20 => ?_) (fun c20 => ?_)
      · have h := h.1 c20
        refine gx_iconst C dX12_fits_141 ?_
        exact gx_zret C G hret (Or.inr rfl) h dX12_fits_142
      · have h := h.2 c20
        refine gx_iload C hl dX12_fits_16 rfl ?_
        refine gx_aload_n C hl dX12_fits_18 rfl ?_
        refine gx_getI C G rfl (fX12_o hV) (fo11_26 (fX12_c hV)) uw_981 (fun _ h9 => h9) dX12_fits_19 ?_
        have r21 := G.r o 26
        refine gx_bipush C dX12_fits_22 (by decide) ?_
        obtain ⟨h22, h⟩ := h
        refine gx_isub C dX12_fits_24 ?_
        refine gx_icmp_le (tgt := 141) C ry5 h22 dX12_fits_25 (by decide) (fun c23 => ?_) (fun c23 => ?_)
        · have h := h.1 c23
          refine gx_iconst C dX12_fits_141 ?_
          exact gx_zret C G hret (Or.inr rfl) h dX12_fits_142
        · have h := h.2 c23
          refine gx_iload C hl dX12_fits_28 rfl ?_
          refine gx_bipush C dX12_fits_30 (by decide) ?_
          refine gx_irem C ry5 (show rng 40 by decide) (by decide) dX12_fits_32 ?_
          refine gx_istore C hl dX12_fits_33 (Nat.le_of_ble_eq_true rfl) (PL' := [some (.inr (some o)), some (.inl x1), some (.inl x2), some (.inl x3), some (.inl y4), some (.inl y5), some (.inl (Int.tmod y5 40)), none, none]) rfl (fun ls hl => ?_)
          refine gx_iload_n C hl dX12_fits_35 rfl ?_
          refine gx_aload_n C hl dX12_fits_36 rfl ?_
          refine gx_getF C G rfl (fX12_o hV) (fo11_27 (fX12_c hV)) (fX12_recentTick hV) uw_982 (fun _ h9 => h9) dX12_fits_37 ?_
          refine gx_iload C hl dX12_fits_40 rfl ?_
          obtain ⟨h24, h⟩ := h
          refine gx_iald C G rfl (fX12_recentTick_l hV) (fX12_recentTick_t hV) (rg_md ry5) h24.1 (ixl (fX12_recentTick_n hV) h24.2) dX12_fits_42 ?_
          have r25 := G.r (o + 13) (Int.toNat (Int.tmod y5 40))
          obtain ⟨h26, h⟩ := h
          refine gx_isub C dX12_fits_43 ?_
          refine gx_istore C hl dX12_fits_44 (Nat.le_of_ble_eq_true rfl) (PL' := [some (.inr (some o)), some (.inl x1), some (.inl x2), some (.inl x3), some (.inl y4), some (.inl y5), some (.inl (Int.tmod y5 40)), some (.inl (x3 - (S.1 (o + 13) (Int.toNat (Int.tmod y5 40))))), none]) rfl (fun ls hl => ?_)
          refine gx_iconst C dX12_fits_46 ?_
          refine gx_istore C hl dX12_fits_47 (Nat.le_of_ble_eq_true rfl) (PL' := [some (.inr (some o)), some (.inl x1), some (.inl x2), some (.inl x3), some (.inl y4), some (.inl y5), some (.inl (Int.tmod y5 40)), some (.inl (x3 - (S.1 (o + 13) (Int.toNat (Int.tmod y5 40))))), some (.inl 0)]) rfl (fun ls hl => ?_)
          obtain ⟨n9, h⟩ := h
          exact b49 (B_X12_fits_11 V o x1 x2 x3 Q n) ih n9 y4 y5 (Int.tmod y5 40) (x3 - (S.1 (o + 13) (Int.toNat (Int.tmod y5 40)))) 0 S H locs ls ry4 ry5 (rg_md ry5) h26 (show rng 0 by decide) hl G h
  clear eA
  unfold PT_X12_fits at h
  refine gx_iconst C dX12_fits_0 ?_
  refine gx_istore C hl dX12_fits_1 (Nat.le_of_ble_eq_true rfl) (PL' := [some (.inr (some o)), some (.inl x1), some (.inl x2), some (.inl x3), some (.inl 0), none, none, none, none]) rfl (fun ls hl => ?_)
  refine gx_aload_n C hl dX12_fits_3 rfl ?_
  refine gx_getI C G rfl (fX12_o hV) (fo11_26 (fX12_c hV)) uw_981 (fun _ h9 => h9) dX12_fits_4 ?_
  have r27 := G.r o 26
  refine gx_iconst C dX12_fits_7 ?_
  obtain ⟨h28, h⟩ := h
  refine gx_isub C dX12_fits_8 ?_
  refine gx_istore C hl dX12_fits_9 (Nat.le_of_ble_eq_true rfl) (PL' := [some (.inr (some o)), some (.inl x1), some (.inl x2), some (.inl x3), some (.inl 0), some (.inl ((S.1 o 26) - 1)), none, none, none]) rfl (fun ls hl => ?_)
  obtain ⟨n9, h⟩ := h
  exact b11 n9 0 ((S.1 o 26) - 1) S H locs ls (show rng 0 by decide) h28 hl G h
def PT_X12_allShut (V : Vt) (o : Nat) (S : Me) (Q : Int → Me → Prop) : Prop := ((0 ≤ (S.1 (o + 2) (Int.toNat 0)) → Q 0 S) ∧ (¬ 0 ≤ (S.1 (o + 2) (Int.toNat 0)) → ((0 ≤ (S.1 (o + 2) (Int.toNat 1)) → Q 0 S) ∧ (¬ 0 ≤ (S.1 (o + 2) (Int.toNat 1)) → ((0 ≤ (S.1 (o + 2) (Int.toNat 2)) → Q 0 S) ∧ (¬ 0 ≤ (S.1 (o + 2) (Int.toNat 2)) → ((0 ≤ (S.1 (o + 2) (Int.toNat 3)) → Q 0 S) ∧ (¬ 0 ≤ (S.1 (o + 2) (Int.toNat 3)) → Q 1 S))))))))
theorem hd_X12_allShut : yX12_allShut.cls ≠ "java/lang/invoke/MethodHandle" ∧ yX12_allShut.cls ≠ "java/lang/invoke/VarHandle" ∧ (parseMethodDescriptor yX12_allShut.desc).map (fun d => d.parameters.length) = some 0 := by decide +kernel
set_option maxHeartbeats 4000000 in
set_option maxRecDepth 100000 in
theorem c_X12_allShut (l : Launch) (D : va_G) (cy : ClassId × ClassId × ClassId × ClassId) (ad : Nat → Nat) {V : Vt} {S : Me} {o : Nat} (hV : fX12 V o) {Q : Int → Me → Prop} (h : PT_X12_allShut V o S Q) : KM l D cy yX12_allShut cX12_allShut 1 (Option.some Jvm.ClassFile.FieldType.boolean) 0 0 ad V S [.inr (some o)] (qI Q) := by
  refine KM.of (by decide) rfl (Nat.le_of_ble_eq_true rfl) (own := RX12) (fun p e s m args below meth c A ls H locs eA C hret hml hmn hl G => ?_)
  have hl : lo ad ls [some (.inr (some o))] := hl
  clear eA
  unfold PT_X12_allShut at h
  refine gx_aload_n C hl dX12_allShut_0 rfl ?_
  refine gx_getF C G rfl (fX12_o hV) (fo11_11 (fX12_c hV)) (fX12_row hV) uw_966 (fun _ h9 => h9) dX12_allShut_1 ?_
  refine gx_iconst C dX12_allShut_4 ?_
  refine gx_iald C G rfl (fX12_row_l hV) (fX12_row_t hV) (show rng 0 by decide) (by decide) (ixl (fX12_row_n hV) (by decide)) dX12_allShut_5 ?_
  have r1 := G.r (o + 2) (Int.toNat 0)
  refine gx_if_ge (tgt := 40) C r1 dX12_allShut_6 (by decide) (fun c2 => ?_) (fun c2 => ?_)
  · have h := h.1 c2
    refine gx_iconst C dX12_allShut_40 ?_
    exact gx_zret C G hret (Or.inl rfl) h dX12_allShut_41
  · have h := h.2 c2
    refine gx_aload_n C hl dX12_allShut_9 rfl ?_
    refine gx_getF C G rfl (fX12_o hV) (fo11_11 (fX12_c hV)) (fX12_row hV) uw_966 (fun _ h9 => h9) dX12_allShut_10 ?_
    refine gx_iconst C dX12_allShut_13 ?_
    refine gx_iald C G rfl (fX12_row_l hV) (fX12_row_t hV) (show rng 1 by decide) (by decide) (ixl (fX12_row_n hV) (by decide)) dX12_allShut_14 ?_
    have r3 := G.r (o + 2) (Int.toNat 1)
    refine gx_if_ge (tgt := 40) C r3 dX12_allShut_15 (by decide) (fun c4 => ?_) (fun c4 => ?_)
    · have h := h.1 c4
      refine gx_iconst C dX12_allShut_40 ?_
      exact gx_zret C G hret (Or.inl rfl) h dX12_allShut_41
    · have h := h.2 c4
      refine gx_aload_n C hl dX12_allShut_18 rfl ?_
      refine gx_getF C G rfl (fX12_o hV) (fo11_11 (fX12_c hV)) (fX12_row hV) uw_966 (fun _ h9 => h9) dX12_allShut_19 ?_
      refine gx_iconst C dX12_allShut_22 ?_
      refine gx_iald C G rfl (fX12_row_l hV) (fX12_row_t hV) (show rng 2 by decide) (by decide) (ixl (fX12_row_n hV) (by decide)) dX12_allShut_23 ?_
      have r5 := G.r (o + 2) (Int.toNat 2)
      refine gx_if_ge (tgt := 40) C r5 dX12_allShut_24 (by decide) (fun c6 => ?_) (fun c6 => ?_)
      · have h := h.1 c6
        refine gx_iconst C dX12_allShut_40 ?_
        exact gx_zret C G hret (Or.inl rfl) h dX12_allShut_41
      · have h := h.2 c6
        refine gx_aload_n C hl dX12_allShut_27 rfl ?_
        refine gx_getF C G rfl (fX12_o hV) (fo11_11 (fX12_c hV)) (fX12_row hV) uw_966 (fun _ h9 => h9) dX12_allShut_28 ?_
        refine gx_iconst C dX12_allShut_31 ?_
        refine gx_iald C G rfl (fX12_row_l hV) (fX12_row_t hV) (show rng 3 by decide) (by decide) (ixl (fX12_row_n hV) (by decide)) dX12_allShut_32 ?_
        have r7 := G.r (o + 2) (Int.toNat 3)
        refine gx_if_ge (tgt := 40) C r7 dX12_allShut_33 (by decide) (fun c8 => ?_) (fun c8 => ?_)
        · have h := h.1 c8
          refine gx_iconst C dX12_allShut_40 ?_
          exact gx_zret C G hret (Or.inl rfl) h dX12_allShut_41
        · have h := h.2 c8
          refine gx_iconst C dX12_allShut_36 ?_
          refine gx_goto (tgt := 41) C dX12_allShut_37 (by decide) ?_
          exact gx_zret C G hret (Or.inr rfl) h dX12_allShut_41
def PT_X12_stands (V : Vt) (o : Nat) (x1 : Int) (x2 : Int) (S : Me) (Q : Int → Me → Prop) : Prop := ((¬ x1 = 4 → ((¬ x1 = 0 → (0 ≤ x2 ∧ x2 < 4) ∧ (((S.1 (o + 2) (Int.toNat x2)) < 0 → Q 0 S) ∧ (¬ (S.1 (o + 2) (Int.toNat x2)) < 0 → Q 1 S))) ∧ (x1 = 0 → (0 ≤ x2 ∧ x2 < 4) ∧ ((0 ≤ (S.1 (o + 2) (Int.toNat x2)) → Q 0 S) ∧ (¬ 0 ≤ (S.1 (o + 2) (Int.toNat x2)) → Q 1 S))))) ∧ (x1 = 4 → PT_X12_allShut V o S (fun t10 S9 => (t10 = 0 ∨ t10 = 1) ∧ Q t10 S9)))
theorem hd_X12_stands : yX12_stands.cls ≠ "java/lang/invoke/MethodHandle" ∧ yX12_stands.cls ≠ "java/lang/invoke/VarHandle" ∧ (parseMethodDescriptor yX12_stands.desc).map (fun d => d.parameters.length) = some 2 := by decide +kernel
set_option maxHeartbeats 4000000 in
set_option maxRecDepth 100000 in
theorem c_X12_stands (l : Launch) (D : va_G) (cy : ClassId × ClassId × ClassId × ClassId) (ad : Nat → Nat) {V : Vt} {S : Me} {o : Nat} {x1 : Int} {x2 : Int} (hV : fX12 V o) (rx1 : rng x1) (rx2 : rng x2) {Q : Int → Me → Prop} (h : PT_X12_stands V o x1 x2 S Q) : KM l D cy yX12_stands cX12_stands 3 (Option.some Jvm.ClassFile.FieldType.boolean) 1 20 ad V S [.inr (some o), .inl x1, .inl x2] (qI Q) := by
  refine KM.of (by decide) rfl (Nat.le_of_ble_eq_true rfl) (own := RX12) (fun p e s m args below meth c A ls H locs eA C hret hml hmn hl G => ?_)
  have hl : lo ad ls [some (.inr (some o)), some (.inl x1), some (.inl x2)] := hl
  clear eA
  unfold PT_X12_stands at h
  refine gx_iload_n C hl dX12_stands_0 rfl ?_
  refine gx_iconst C dX12_stands_1 ?_
  refine gx_icmp_ne (tgt := 12) C rx1 (show rng 4 by decide) dX12_stands_2 (by decide) (fun c1 => ?_) (fun c1 => ?_)
  · have h := h.1 c1
    refine gx_iload_n C hl dX12_stands_12 rfl ?_
    refine gx_if_ne (tgt := 33) C rx1 dX12_stands_13 (by decide) (fun c2 => ?_) (fun c2 => ?_)
    · have h := h.1 c2
      refine gx_aload_n C hl dX12_stands_33 rfl ?_
      refine gx_getF C G rfl (fX12_o hV) (fo11_11 (fX12_c hV)) (fX12_row hV) uw_966 (fun _ h9 => h9) dX12_stands_34 ?_
      refine gx_iload_n C hl dX12_stands_37 rfl ?_
      obtain ⟨h3, h⟩ := h
      refine gx_iald C G rfl (fX12_row_l hV) (fX12_row_t hV) rx2 h3.1 (ixl (fX12_row_n hV) h3.2) dX12_stands_38 ?_
      have r4 := G.r (o + 2) (Int.toNat x2)
      refine gx_if_lt (tgt := 46) C r4 dX12_stands_39 (by decide) (fun c5 => ?_) (fun c5 => ?_)
      · have h := h.1 c5
        refine gx_iconst C dX12_stands_46 ?_
        exact gx_zret C G hret (Or.inl rfl) h dX12_stands_47
      · have h := h.2 c5
        refine gx_iconst C dX12_stands_42 ?_
        refine gx_goto (tgt := 47) C dX12_stands_43 (by decide) ?_
        exact gx_zret C G hret (Or.inr rfl) h dX12_stands_47
    · have h := h.2 c2
      refine gx_aload_n C hl dX12_stands_16 rfl ?_
      refine gx_getF C G rfl (fX12_o hV) (fo11_11 (fX12_c hV)) (fX12_row hV) uw_966 (fun _ h9 => h9) dX12_stands_17 ?_
      refine gx_iload_n C hl dX12_stands_20 rfl ?_
      obtain ⟨h6, h⟩ := h
      refine gx_iald C G rfl (fX12_row_l hV) (fX12_row_t hV) rx2 h6.1 (ixl (fX12_row_n hV) h6.2) dX12_stands_21 ?_
      have r7 := G.r (o + 2) (Int.toNat x2)
      refine gx_if_ge (tgt := 29) C r7 dX12_stands_22 (by decide) (fun c8 => ?_) (fun c8 => ?_)
      · have h := h.1 c8
        refine gx_iconst C dX12_stands_29 ?_
        refine gx_goto (tgt := 47) C dX12_stands_30 (by decide) ?_
        exact gx_zret C G hret (Or.inl rfl) h dX12_stands_47
      · have h := h.2 c8
        refine gx_iconst C dX12_stands_25 ?_
        refine gx_goto (tgt := 47) C dX12_stands_26 (by decide) ?_
        exact gx_zret C G hret (Or.inr rfl) h dX12_stands_47
  · have h := h.2 c1
    refine gx_aload_n C hl dX12_stands_5 rfl ?_
    refine gx_callV C G hl hml (c_X12_allShut l D cy ad hV h) rfl (fX12_o hV) (by rw [(fX12_c hV)]; rfl) (by rw [(fX12_c hV)]; decide) rfl uw_1213 uw_1210 uw_1212 up_28 uw_9 hd_X12_allShut ⟨Nat.le_of_ble_eq_true rfl, Nat.le_of_ble_eq_true rfl⟩ ⟨Nat.zero_le _, Nat.zero_le _⟩ rfl rfl (hw_le ad [] rfl (Nat.le_of_ble_eq_true rfl)) dX12_stands_6 (kkI (fun t10 S9 H locs rt10 h G => ?_))
    refine gx_goto (tgt := 47) C dX12_stands_9 (by decide) ?_
    obtain ⟨h11, h⟩ := h
    exact gx_zret C G hret h11 h dX12_stands_47
def PT_X12_canGo (V : Vt) (o : Nat) (x1 : Int) (x2 : Int) (S : Me) (Q : Int → Me → Prop) : Prop := PT_X12_stands V o x1 x2 S (fun t2 S1 => ((t2 = 0 → Q 0 S1) ∧ (¬ t2 = 0 → PT_X12_fits V o x1 x2 (S1.1 o 6) S1 (fun t6 S5 => ((t6 = 0 → Q 0 S5) ∧ (¬ t6 = 0 → Q 1 S5))))))
theorem hd_X12_canGo : yX12_canGo.cls ≠ "java/lang/invoke/MethodHandle" ∧ yX12_canGo.cls ≠ "java/lang/invoke/VarHandle" ∧ (parseMethodDescriptor yX12_canGo.desc).map (fun d => d.parameters.length) = some 2 := by decide +kernel
set_option maxHeartbeats 4000000 in
set_option maxRecDepth 100000 in
theorem c_X12_canGo (l : Launch) (D : va_G) (cy : ClassId × ClassId × ClassId × ClassId) (ad : Nat → Nat) {V : Vt} {S : Me} {o : Nat} {x1 : Int} {x2 : Int} (hV : fX12 V o) (rx1 : rng x1) (rx2 : rng x2) {Q : Int → Me → Prop} (h : PT_X12_canGo V o x1 x2 S Q) : KM l D cy yX12_canGo cX12_canGo 3 (Option.some Jvm.ClassFile.FieldType.boolean) 2 58 ad V S [.inr (some o), .inl x1, .inl x2] (qI Q) := by
  refine KM.of (by decide) rfl (Nat.le_of_ble_eq_true rfl) (own := RX12) (fun p e s m args below meth c A ls H locs eA C hret hml hmn hl G => ?_)
  have hl : lo ad ls [some (.inr (some o)), some (.inl x1), some (.inl x2)] := hl
  clear eA
  unfold PT_X12_canGo at h
  refine gx_aload_n C hl dX12_canGo_0 rfl ?_
  refine gx_iload_n C hl dX12_canGo_1 rfl ?_
  refine gx_iload_n C hl dX12_canGo_2 rfl ?_
  refine gx_callV C G hl hml (c_X12_stands l D cy ad hV rx1 rx2 h) rfl (fX12_o hV) (by rw [(fX12_c hV)]; rfl) (by rw [(fX12_c hV)]; decide) rfl uw_1209 uw_1206 uw_1208 up_27 uw_9 hd_X12_stands ⟨Nat.le_of_ble_eq_true rfl, Nat.le_of_ble_eq_true rfl⟩ ⟨Nat.zero_le _, Nat.zero_le _⟩ rfl rfl (hw_le ad [] rfl (Nat.le_of_ble_eq_true rfl)) dX12_canGo_3 (kkI (fun t2 S1 H locs rt2 h G => ?_))
  refine gx_if_eq (tgt := 26) C rt2 dX12_canGo_6 (by decide) (fun c3 => ?_) (fun c3 => ?_)
  · have h := h.1 c3
    refine gx_iconst C dX12_canGo_26 ?_
    exact gx_zret C G hret (Or.inl rfl) h dX12_canGo_27
  · have h := h.2 c3
    refine gx_aload_n C hl dX12_canGo_9 rfl ?_
    refine gx_iload_n C hl dX12_canGo_10 rfl ?_
    refine gx_iload_n C hl dX12_canGo_11 rfl ?_
    refine gx_aload_n C hl dX12_canGo_12 rfl ?_
    refine gx_getI C G rfl (fX12_o hV) (fo11_6 (fX12_c hV)) uw_961 (fun _ h9 => h9) dX12_canGo_13 ?_
    have r4 := G.r o 6
    refine gx_callV C G hl hml (c_X12_fits l D cy ad hV rx1 rx2 r4 h) rfl (fX12_o hV) (by rw [(fX12_c hV)]; rfl) (by rw [(fX12_c hV)]; decide) rfl uw_1217 uw_1214 uw_1216 up_29 uw_9 hd_X12_fits ⟨Nat.le_of_ble_eq_true rfl, Nat.le_of_ble_eq_true rfl⟩ ⟨Nat.zero_le _, Nat.zero_le _⟩ rfl rfl (hw_le ad [] rfl (Nat.le_of_ble_eq_true rfl)) dX12_canGo_16 (kkI (fun t6 S5 H locs rt6 h G => ?_))
    refine gx_if_eq (tgt := 26) C rt6 dX12_canGo_19 (by decide) (fun c7 => ?_) (fun c7 => ?_)
    · have h := h.1 c7
      refine gx_iconst C dX12_canGo_26 ?_
      exact gx_zret C G hret (Or.inl rfl) h dX12_canGo_27
    · have h := h.2 c7
      refine gx_iconst C dX12_canGo_22 ?_
      refine gx_goto (tgt := 27) C dX12_canGo_23 (by decide) ?_
      exact gx_zret C G hret (Or.inr rfl) h dX12_canGo_27
def PT_X12_choose (V : Vt) (o : Nat) (x1 : Int) (x2 : Int) (x3 : Int) (S : Me) (Q : Me → Prop) : Prop := ∀ S1 : Me, S1 = sI S o 40 x1 → ∀ S2 : Me, S2 = sI S1 o 41 x2 → ∀ S3 : Me, S3 = sI S2 o 42 x3 → Q S3
theorem hd_X12_choose : yX12_choose.cls ≠ "java/lang/invoke/MethodHandle" ∧ yX12_choose.cls ≠ "java/lang/invoke/VarHandle" ∧ (parseMethodDescriptor yX12_choose.desc).map (fun d => d.parameters.length) = some 3 := by decide +kernel
set_option maxHeartbeats 4000000 in
set_option maxRecDepth 100000 in
theorem c_X12_choose (l : Launch) (D : va_G) (cy : ClassId × ClassId × ClassId × ClassId) (ad : Nat → Nat) {V : Vt} {S : Me} {o : Nat} {x1 : Int} {x2 : Int} {x3 : Int} (hV : fX12 V o) (rx1 : rng x1) (rx2 : rng x2) (rx3 : rng x3) {Q : Me → Prop} (h : PT_X12_choose V o x1 x2 x3 S Q) : KM l D cy yX12_choose cX12_choose 4 (Option.none : Option Jvm.ClassFile.FieldType) 0 0 ad V S [.inr (some o), .inl x1, .inl x2, .inl x3] (qV Q) := by
  refine KM.of (by decide) rfl (Nat.le_of_ble_eq_true rfl) (own := RX12) (fun p e s m args below meth c A ls H locs eA C hret hml hmn hl G => ?_)
  have hl : lo ad ls [some (.inr (some o)), some (.inl x1), some (.inl x2), some (.inl x3)] := hl
  clear eA
  unfold PT_X12_choose at h
  refine gx_aload_n C hl dX12_choose_0 rfl ?_
  refine gx_iload_n C hl dX12_choose_1 rfl ?_
  refine gx_putI C G rfl (fX12_o hV) (fo11_40 (fX12_c hV)) rx1 uw_995 (fun _ h9 => h9) dX12_choose_2 (fun H locs G => ?_)
  obtain ⟨S1, eS1⟩ : ∃ q9 : Me, q9 = sI S o 40 x1 := ⟨_, rfl⟩
  have h := h S1 eS1
  rw [← eS1] at G
  refine gx_aload_n C hl dX12_choose_5 rfl ?_
  refine gx_iload_n C hl dX12_choose_6 rfl ?_
  refine gx_putI C G rfl (fX12_o hV) (fo11_41 (fX12_c hV)) rx2 uw_996 (fun _ h9 => h9) dX12_choose_7 (fun H locs G => ?_)
  obtain ⟨S2, eS2⟩ : ∃ q9 : Me, q9 = sI S1 o 41 x2 := ⟨_, rfl⟩
  have h := h S2 eS2
  rw [← eS2] at G
  refine gx_aload_n C hl dX12_choose_10 rfl ?_
  refine gx_iload_n C hl dX12_choose_11 rfl ?_
  refine gx_putI C G rfl (fX12_o hV) (fo11_42 (fX12_c hV)) rx3 uw_997 (fun _ h9 => h9) dX12_choose_12 (fun H locs G => ?_)
  obtain ⟨S3, eS3⟩ : ∃ q9 : Me, q9 = sI S2 o 42 x3 := ⟨_, rfl⟩
  have h := h S3 eS3
  rw [← eS3] at G
  exact gx_vret C G hret h dX12_choose_15
