def PT_X12_commandOf (V : Vt) (o : Nat) (x1 : Int) (S : Me) (Q : Int → Me → Prop) : Prop := (0 ≤ x1 ∧ x1 < 400) ∧ PT_X12_bankOf V (S.1 (o + 6) (Int.toNat x1)) S (fun t4 S3 => PT_X12_isOpen V o x1 S3 (fun t6 S5 => ((t6 = 0 → (0 ≤ t4 ∧ t4 < 4) ∧ (((S5.1 (o + 2) (Int.toNat t4)) < 0 → Q 0 S5) ∧ (¬ (S5.1 (o + 2) (Int.toNat t4)) < 0 → Q 1 S5))) ∧ (¬ t6 = 0 → (0 ≤ x1 ∧ x1 < 400) ∧ ((¬ (S5.1 (o + 4) (Int.toNat x1)) = 0 → Q 3 S5) ∧ ((S5.1 (o + 4) (Int.toNat x1)) = 0 → Q 2 S5))))))
theorem hd_X12_commandOf : yX12_commandOf.cls ≠ "java/lang/invoke/MethodHandle" ∧ yX12_commandOf.cls ≠ "java/lang/invoke/VarHandle" ∧ (parseMethodDescriptor yX12_commandOf.desc).map (fun d => d.parameters.length) = some 1 := by decide +kernel
set_option maxHeartbeats 4000000 in
set_option maxRecDepth 100000 in
theorem c_X12_commandOf (l : Launch) (D : va_G) (cy : ClassId × ClassId × ClassId × ClassId) (ad : Nat → Nat) {V : Vt} {S : Me} {o : Nat} {x1 : Int} (hV : fX12 V o) (rx1 : rng x1) {Q : Int → Me → Prop} (h : PT_X12_commandOf V o x1 S Q) : KM l D cy yX12_commandOf cX12_commandOf 3 (Option.some Jvm.ClassFile.FieldType.int) 2 41 ad V S [.inr (some o), .inl x1] (qI Q) := by
  refine KM.of (by decide) rfl (Nat.le_of_ble_eq_true rfl) (own := RX12) (fun p e s m args below meth c A ls H locs eA C hret hml hmn hl G => ?_)
  have hl : lo ad ls [some (.inr (some o)), some (.inl x1), none] := hl
  clear eA
  unfold PT_X12_commandOf at h
  refine gx_aload_n C hl dX12_commandOf_0 rfl ?_
  refine gx_getF C G rfl (fX12_o hV) (fo11_17 (fX12_c hV)) (fX12_address hV) uw_972 (fun _ h9 => h9) dX12_commandOf_1 ?_
  refine gx_iload_n C hl dX12_commandOf_4 rfl ?_
  obtain ⟨h1, h⟩ := h
  refine gx_iald C G rfl (fX12_address_l hV) (fX12_address_t hV) rx1 h1.1 (ixl (fX12_address_n hV) h1.2) dX12_commandOf_5 ?_
  have r2 := G.r (o + 6) (Int.toNat x1)
  refine gx_callS C G hl hml (c_X12_bankOf l D cy ad r2 h) uw_1236 uw_1234 uw_1235 uw_9 hd_X12_bankOf ⟨Nat.le_of_ble_eq_true rfl, Nat.le_of_ble_eq_true rfl⟩ ⟨Nat.zero_le _, Nat.zero_le _⟩ rfl rfl (hw_le ad [] rfl (Nat.le_of_ble_eq_true rfl)) dX12_commandOf_6 (kkI (fun t4 S3 H locs rt4 h G => ?_))
  refine gx_istore_n C hl dX12_commandOf_9 (Nat.le_of_ble_eq_true rfl) (PL' := [some (.inr (some o)), some (.inl x1), some (.inl t4)]) rfl (fun ls hl => ?_)
  refine gx_aload_n C hl dX12_commandOf_10 rfl ?_
  refine gx_iload_n C hl dX12_commandOf_11 rfl ?_
  refine gx_callV C G hl hml (c_X12_isOpen l D cy ad hV rx1 h) rfl (fX12_o hV) (by rw [(fX12_c hV)]; rfl) (by rw [(fX12_c hV)]; decide) rfl uw_1233 uw_1230 uw_1232 up_33 uw_9 hd_X12_isOpen ⟨Nat.le_of_ble_eq_true rfl, Nat.le_of_ble_eq_true rfl⟩ ⟨Nat.zero_le _, Nat.zero_le _⟩ rfl rfl (hw_le ad [] rfl (Nat.le_of_ble_eq_true rfl)) dX12_commandOf_12 (kkI (fun t6 S5 H locs rt6 h G => ?_))
  refine gx_if_eq (tgt := 35) C rt6 dX12_commandOf_15 (by decide) (fun c7 => ?_) (fun c7 => ?_)
  · have h := h.1 c7
    refine gx_aload_n C hl dX12_commandOf_35 rfl ?_
    refine gx_getF C G rfl (fX12_o hV) (fo11_11 (fX12_c hV)) (fX12_row hV) uw_966 (fun _ h9 => h9) dX12_commandOf_36 ?_
    refine gx_iload_n C hl dX12_commandOf_39 rfl ?_
    obtain ⟨h8, h⟩ := h
    refine gx_iald C G rfl (fX12_row_l hV) (fX12_row_t hV) rt4 h8.1 (ixl (fX12_row_n hV) h8.2) dX12_commandOf_40 ?_
    have r9 := G.r (o + 2) (Int.toNat t4)
    refine gx_if_lt (tgt := 48) C r9 dX12_commandOf_41 (by decide) (fun c10 => ?_) (fun c10 => ?_)
    · have h := h.1 c10
      refine gx_iconst C dX12_commandOf_48 ?_
      exact gx_iret C G hret (show rng 0 by decide) h dX12_commandOf_49
    · have h := h.2 c10
      refine gx_iconst C dX12_commandOf_44 ?_
      refine gx_goto (tgt := 49) C dX12_commandOf_45 (by decide) ?_
      exact gx_iret C G hret (show rng 1 by decide) h dX12_commandOf_49
  · have h := h.2 c7
    refine gx_aload_n C hl dX12_commandOf_18 rfl ?_
    refine gx_getF C G rfl (fX12_o hV) (fo11_15 (fX12_c hV)) (fX12_kind hV) uw_970 (fun _ h9 => h9) dX12_commandOf_19 ?_
    refine gx_iload_n C hl dX12_commandOf_22 rfl ?_
    obtain ⟨h11, h⟩ := h
    refine gx_iald C G rfl (fX12_kind_l hV) (fX12_kind_t hV) rx1 h11.1 (ixl (fX12_kind_n hV) h11.2) dX12_commandOf_23 ?_
    have r12 := G.r (o + 4) (Int.toNat x1)
    refine gx_if_ne (tgt := 31) C r12 dX12_commandOf_24 (by decide) (fun c13 => ?_) (fun c13 => ?_)
    · have h := h.1 c13
      refine gx_iconst C dX12_commandOf_31 ?_
      refine gx_goto (tgt := 49) C dX12_commandOf_32 (by decide) ?_
      exact gx_iret C G hret (show rng 3 by decide) h dX12_commandOf_49
    · have h := h.2 c13
      refine gx_iconst C dX12_commandOf_27 ?_
      refine gx_goto (tgt := 49) C dX12_commandOf_28 (by decide) ?_
      exact gx_iret C G hret (show rng 2 by decide) h dX12_commandOf_49
def B_X12_isFirst_62 (V : Vt) (o : Nat) (x1 : Int) (K4 : Int → Int → Me → Prop) (y3 : Int) (w0 : Int) (S : Me) (Q : Int → Me → Prop) : Prop := (rng (y3 + 1)) ∧ K4 w0 (y3 + 1) S
def B_X12_isFirst_61 (V : Vt) (o : Nat) (x1 : Int) (K4 : Int → Int → Me → Prop) (y3 : Int) (S : Me) (Q : Int → Me → Prop) : Prop := B_X12_isFirst_62 V o x1 K4 y3 0 S Q
def B_X12_isFirst_57 (V : Vt) (o : Nat) (x1 : Int) (K4 : Int → Int → Me → Prop) (y3 : Int) (S : Me) (Q : Int → Me → Prop) : Prop := B_X12_isFirst_62 V o x1 K4 y3 1 S Q
def B_X12_isFirst_4 (V : Vt) (o : Nat) (x1 : Int) (Q : Int → Me → Prop) : Nat → (Int → Int → Me → Prop)
  | 0 => fun _ _ _ => False
  | n + 1 => fun y2 y3 S => ((x1 ≤ y3 → (y2 = 0 ∨ y2 = 1) ∧ Q y2 S) ∧ (¬ x1 ≤ y3 → ((y2 = 0 → B_X12_isFirst_61 V o x1 (B_X12_isFirst_4 V o x1 Q n) y3 S Q) ∧ (¬ y2 = 0 → (0 ≤ y3 ∧ y3 < 12) ∧ (0 ≤ (S.1 (o + 22) (Int.toNat y3)) ∧ (S.1 (o + 22) (Int.toNat y3)) < 400) ∧ PT_X12_bankOf V (S.1 (o + 6) (Int.toNat (S.1 (o + 22) (Int.toNat y3)))) S (fun t10 S9 => (0 ≤ x1 ∧ x1 < 12) ∧ (0 ≤ (S9.1 (o + 22) (Int.toNat x1)) ∧ (S9.1 (o + 22) (Int.toNat x1)) < 400) ∧ PT_X12_bankOf V (S9.1 (o + 6) (Int.toNat (S9.1 (o + 22) (Int.toNat x1)))) S9 (fun t16 S15 => ((¬ t10 = t16 → B_X12_isFirst_57 V o x1 (B_X12_isFirst_4 V o x1 Q n) y3 S15 Q) ∧ (t10 = t16 → (0 ≤ y3 ∧ y3 < 12) ∧ PT_X12_isHeld V o (S15.1 (o + 22) (Int.toNat y3)) S15 (fun t21 S20 => ((t21 = 0 → B_X12_isFirst_61 V o x1 (B_X12_isFirst_4 V o x1 Q n) y3 S20 Q) ∧ (¬ t21 = 0 → B_X12_isFirst_57 V o x1 (B_X12_isFirst_4 V o x1 Q n) y3 S20 Q)))))))))))
def PT_X12_isFirst (V : Vt) (o : Nat) (x1 : Int) (S : Me) (Q : Int → Me → Prop) : Prop := (∃ n9 : Nat, B_X12_isFirst_4 V o x1 Q n9 1 0 S)
theorem hd_X12_isFirst : yX12_isFirst.cls ≠ "java/lang/invoke/MethodHandle" ∧ yX12_isFirst.cls ≠ "java/lang/invoke/VarHandle" ∧ (parseMethodDescriptor yX12_isFirst.desc).map (fun d => d.parameters.length) = some 1 := by decide +kernel
set_option maxHeartbeats 4000000 in
set_option maxRecDepth 100000 in
theorem c_X12_isFirst (l : Launch) (D : va_G) (cy : ClassId × ClassId × ClassId × ClassId) (ad : Nat → Nat) {V : Vt} {S : Me} {o : Nat} {x1 : Int} (hV : fX12 V o) (rx1 : rng x1) {Q : Int → Me → Prop} (h : PT_X12_isFirst V o x1 S Q) : KM l D cy yX12_isFirst cX12_isFirst 4 (Option.some Jvm.ClassFile.FieldType.boolean) 2 46 ad V S [.inr (some o), .inl x1] (qI Q) := by
  refine KM.of (by decide) rfl (Nat.le_of_ble_eq_true rfl) (own := RX12) (fun p e s m args below meth c A ls H locs eA C hret hml hmn hl G => ?_)
  have hl : lo ad ls [some (.inr (some o)), some (.inl x1), none, none] := hl
  have b62 : ∀ (K4 : Int → Int → Me → Prop) (hK4 : ∀ (y2 : Int) (y3 : Int) (S : Me) (H : Heap) (locs : List Loc) (ls : Array Slot), rng y2 → rng y3 → lo ad ls [some (.inr (some o)), some (.inl x1), some (.inl y2), some (.inl y3)] → Gy D cy A s.heap ad V S H locs → K4 y2 y3 S → W p l e (rmx 2 46) s m args below meth c H locs 0 0 (qm below D cy ad V A args s (qI Q)) (F0 m 4 ls [])) (y3 : Int) (w0 : Int) (S : Me) (H : Heap) (locs : List Loc) (ls : Array Slot), rng y3 → rng w0 → lo ad ls [some (.inr (some o)), some (.inl x1), none, some (.inl y3)] → Gy D cy A s.heap ad V S H locs → B_X12_isFirst_62 V o x1 K4 y3 w0 S Q → W p l e (rmx 2 46) s m args below meth c H locs 0 0 (qm below D cy ad V A args s (qI Q)) (F0 m 62 ls [vI w0]) := by
    intro K4 hK4 y3 w0 S H locs ls ry3 rw0 hl G h
    unfold B_X12_isFirst_62 at h
    refine gx_istore_n C hl dX12_isFirst_62 (Nat.le_of_ble_eq_true rfl) (PL' := [some (.inr (some o)), some (.inl x1), some (.inl w0), some (.inl y3)]) rfl (fun ls hl => ?_)
    obtain ⟨h1, h⟩ := h
    refine gx_iinc C hl dX12_isFirst_63 rfl (PL' := [some (.inr (some o)), some (.inl x1), some (.inl w0), some (.inl (y3 + 1))]) rfl (fun ls hl => ?_)
    refine gx_goto (tgt := 4) C dX12_isFirst_66 (by decide) ?_
    exact hK4 w0 (y3 + 1) S H locs ls rw0 h1 hl G h
  have b61 : ∀ (K4 : Int → Int → Me → Prop) (hK4 : ∀ (y2 : Int) (y3 : Int) (S : Me) (H : Heap) (locs : List Loc) (ls : Array Slot), rng y2 → rng y3 → lo ad ls [some (.inr (some o)), some (.inl x1), some (.inl y2), some (.inl y3)] → Gy D cy A s.heap ad V S H locs → K4 y2 y3 S → W p l e (rmx 2 46) s m args below meth c H locs 0 0 (qm below D cy ad V A args s (qI Q)) (F0 m 4 ls [])) (y3 : Int) (S : Me) (H : Heap) (locs : List Loc) (ls : Array Slot), rng y3 → lo ad ls [some (.inr (some o)), some (.inl x1), none, some (.inl y3)] → Gy D cy A s.heap ad V S H locs → B_X12_isFirst_61 V o x1 K4 y3 S Q → W p l e (rmx 2 46) s m args below meth c H locs 0 0 (qm below D cy ad V A args s (qI Q)) (F0 m 61 ls []) := by
    intro K4 hK4 y3 S H locs ls ry3 hl G h
    unfold B_X12_isFirst_61 at h
    refine gx_iconst C dX12_isFirst_61 ?_
    exact b62 K4 hK4 y3 0 S H locs ls ry3 (show rng 0 by decide) hl G h
  have b57 : ∀ (K4 : Int → Int → Me → Prop) (hK4 : ∀ (y2 : Int) (y3 : Int) (S : Me) (H : Heap) (locs : List Loc) (ls : Array Slot), rng y2 → rng y3 → lo ad ls [some (.inr (some o)), some (.inl x1), some (.inl y2), some (.inl y3)] → Gy D cy A s.heap ad V S H locs → K4 y2 y3 S → W p l e (rmx 2 46) s m args below meth c H locs 0 0 (qm below D cy ad V A args s (qI Q)) (F0 m 4 ls [])) (y3 : Int) (S : Me) (H : Heap) (locs : List Loc) (ls : Array Slot), rng y3 → lo ad ls [some (.inr (some o)), some (.inl x1), none, some (.inl y3)] → Gy D cy A s.heap ad V S H locs → B_X12_isFirst_57 V o x1 K4 y3 S Q → W p l e (rmx 2 46) s m args below meth c H locs 0 0 (qm below D cy ad V A args s (qI Q)) (F0 m 57 ls []) := by
    intro K4 hK4 y3 S H locs ls ry3 hl G h
    unfold B_X12_isFirst_57 at h
    refine gx_iconst C dX12_isFirst_57 ?_
    refine gx_goto (tgt := 62) C dX12_isFirst_58 (by decide) ?_
    exact b62 K4 hK4 y3 1 S H locs ls ry3 (show rng 1 by decide) hl G h
  have b4 : ∀ (n : Nat) (y2 : Int) (y3 : Int) (S : Me) (H : Heap) (locs : List Loc) (ls : Array Slot), rng y2 → rng y3 → lo ad ls [some (.inr (some o)), some (.inl x1), some (.inl y2), some (.inl y3)] → Gy D cy A s.heap ad V S H locs → B_X12_isFirst_4 V o x1 Q n y2 y3 S → W p l e (rmx 2 46) s m args below meth c H locs 0 0 (qm below D cy ad V A args s (qI Q)) (F0 m 4 ls []) := by
    intro n
    induction n with
    | zero =>
      intro y2 y3 S H locs ls ry2 ry3 hl G h
      exact absurd h id
    | succ n ih =>
      intro y2 y3 S H locs ls ry2 ry3 hl G h
      rw [B_X12_isFirst_4] at h
      refine gx_iload_n C hl dX12_isFirst_4 rfl ?_
      refine gx_iload_n C hl dX12_isFirst_5 rfl ?_
      refine gx_icmp_ge (tgt := 69) C ry3 rx1 dX12_isFirst_6 (by decide) (fun c2 => ?_) (fun c2 => ?_)
      · have h := h.1 c2
        refine gx_iload_n C hl dX12_isFirst_69 rfl ?_
        obtain ⟨h3, h⟩ := h
        exact gx_zret C G hret h3 h dX12_isFirst_70
      · have h := h.2 c2
        refine gx_iload_n C hl dX12_isFirst_9 rfl ?_
        refine gx_if_eq (tgt := 61) C ry2 dX12_isFirst_10 (by decide) (fun c4 => ?_) (fun c4 => ?_)
        · have h := h.1 c4
          exact b61 (B_X12_isFirst_4 V o x1 Q n) ih y3 S H locs ls ry3 (lo_mask (bs := [true, true, false, true]) hl rfl rfl) G h
        · have h := h.2 c4
          refine gx_aload_n C hl dX12_isFirst_13 rfl ?_
          refine gx_getF C G rfl (fX12_o hV) (fo11_17 (fX12_c hV)) (fX12_address hV) uw_972 (fun _ h9 => h9) dX12_isFirst_14 ?_
          refine gx_aload_n C hl dX12_isFirst_17 rfl ?_
          refine gx_getF C G rfl (fX12_o hV) (fo11_38 (fX12_c hV)) (fX12_row0 hV) uw_993 (fun _ h9 => h9) dX12_isFirst_18 ?_
          refine gx_iload_n C hl dX12_isFirst_21 rfl ?_
          obtain ⟨h5, h⟩ := h
          refine gx_iald C G rfl (fX12_row0_l hV) (fX12_row0_t hV) ry3 h5.1 (ixl (fX12_row0_n hV) h5.2) dX12_isFirst_22 ?_
          have r6 := G.r (o + 22) (Int.toNat y3)
          obtain ⟨h7, h⟩ := h
          refine gx_iald C G rfl (fX12_address_l hV) (fX12_address_t hV) r6 h7.1 (ixl (fX12_address_n hV) h7.2) dX12_isFirst_23 ?_
          have r8 := G.r (o + 6) (Int.toNat (S.1 (o + 22) (Int.toNat y3)))
          refine gx_callS C G hl hml (c_X12_bankOf l D cy ad r8 h) uw_1236 uw_1234 uw_1235 uw_9 hd_X12_bankOf ⟨Nat.le_of_ble_eq_true rfl, Nat.le_of_ble_eq_true rfl⟩ ⟨Nat.zero_le _, Nat.zero_le _⟩ rfl rfl (hw_le ad [] rfl (Nat.le_of_ble_eq_true rfl)) dX12_isFirst_24 (kkI (fun t10 S9 H locs rt10 h G => ?_))
          refine gx_aload_n C hl dX12_isFirst_27 rfl ?_
          refine gx_getF C G rfl (fX12_o hV) (fo11_17 (fX12_c hV)) (fX12_address hV) uw_972 (fun _ h9 => h9) dX12_isFirst_28 ?_
          refine gx_aload_n C hl dX12_isFirst_31 rfl ?_
          refine gx_getF C G rfl (fX12_o hV) (fo11_38 (fX12_c hV)) (fX12_row0 hV) uw_993 (fun _ h9 => h9) dX12_isFirst_32 ?_
          refine gx_iload_n C hl dX12_isFirst_35 rfl ?_
          obtain ⟨h11, h⟩ := h
          refine gx_iald C G rfl (fX12_row0_l hV) (fX12_row0_t hV) rx1 h11.1 (ixl (fX12_row0_n hV) h11.2) dX12_isFirst_36 ?_
          have r12 := G.r (o + 22) (Int.toNat x1)
          obtain ⟨h13, h⟩ := h
          refine gx_iald C G rfl (fX12_address_l hV) (fX12_address_t hV) r12 h13.1 (ixl (fX12_address_n hV) h13.2) dX12_isFirst_37 ?_
          have r14 := G.r (o + 6) (Int.toNat (S9.1 (o + 22) (Int.toNat x1)))
          refine gx_callS C G hl hml (c_X12_bankOf l D cy ad r14 h) uw_1236 uw_1234 uw_1235 uw_9 hd_X12_bankOf ⟨Nat.le_of_ble_eq_true rfl, Nat.le_of_ble_eq_true rfl⟩ ⟨Nat.zero_le _, Nat.zero_le _⟩ rfl rfl (hw_le ad [.inl t10] rfl (Nat.le_of_ble_eq_true rfl)) dX12_isFirst_38 (kkI (fun t16 S15 H locs rt16 h G => ?_))
          refine gx_icmp_ne (tgt := 57) C rt10 rt16 dX12_isFirst_41 (by decide) (fun c17 => ?_) (fun c17 => ?_)
          · have h := h.1 c17
            exact b57 (B_X12_isFirst_4 V o x1 Q n) ih y3 S15 H locs ls ry3 (lo_mask (bs := [true, true, false, true]) hl rfl rfl) G h
          · have h := h.2 c17
            refine gx_aload_n C hl dX12_isFirst_44 rfl ?_
            refine gx_aload_n C hl dX12_isFirst_45 rfl ?_
            refine gx_getF C G rfl (fX12_o hV) (fo11_38 (fX12_c hV)) (fX12_row0 hV) uw_993 (fun _ h9 => h9) dX12_isFirst_46 ?_
            refine gx_iload_n C hl dX12_isFirst_49 rfl ?_
            obtain ⟨h18, h⟩ := h
            refine gx_iald C G rfl (fX12_row0_l hV) (fX12_row0_t hV) ry3 h18.1 (ixl (fX12_row0_n hV) h18.2) dX12_isFirst_50 ?_
            have r19 := G.r (o + 22) (Int.toNat y3)
            refine gx_callV C G hl hml (c_X12_isHeld l D cy ad hV r19 h) rfl (fX12_o hV) (by rw [(fX12_c hV)]; rfl) (by rw [(fX12_c hV)]; decide) rfl uw_1247 uw_1244 uw_1246 up_35 uw_9 hd_X12_isHeld ⟨Nat.le_of_ble_eq_true rfl, Nat.le_of_ble_eq_true rfl⟩ ⟨Nat.zero_le _, Nat.zero_le _⟩ rfl rfl (hw_le ad [] rfl (Nat.le_of_ble_eq_true rfl)) dX12_isFirst_51 (kkI (fun t21 S20 H locs rt21 h G => ?_))
            refine gx_if_eq (tgt := 61) C rt21 dX12_isFirst_54 (by decide) (fun c22 => ?_) (fun c22 => ?_)
            · have h := h.1 c22
              exact b61 (B_X12_isFirst_4 V o x1 Q n) ih y3 S20 H locs ls ry3 (lo_mask (bs := [true, true, false, true]) hl rfl rfl) G h
            · have h := h.2 c22
              exact b57 (B_X12_isFirst_4 V o x1 Q n) ih y3 S20 H locs ls ry3 (lo_mask (bs := [true, true, false, true]) hl rfl rfl) G h
  clear eA
  unfold PT_X12_isFirst at h
  refine gx_iconst C dX12_isFirst_0 ?_
  refine gx_istore_n C hl dX12_isFirst_1 (Nat.le_of_ble_eq_true rfl) (PL' := [some (.inr (some o)), some (.inl x1), some (.inl 1), none]) rfl (fun ls hl => ?_)
  refine gx_iconst C dX12_isFirst_2 ?_
  refine gx_istore_n C hl dX12_isFirst_3 (Nat.le_of_ble_eq_true rfl) (PL' := [some (.inr (some o)), some (.inl x1), some (.inl 1), some (.inl 0)]) rfl (fun ls hl => ?_)
  obtain ⟨n9, h⟩ := h
  exact b4 n9 1 0 S H locs ls (show rng 1 by decide) (show rng 0 by decide) hl G h
def B_X12_plainWaiting_36 (V : Vt) (o : Nat) (K4 : Int → Int → Me → Prop) (y2 : Int) (w0 : Int) (w1 : Int) (S : Me) (Q : Int → Me → Prop) : Prop := (rng (w0 + w1)) ∧ (rng (y2 + 1)) ∧ K4 (w0 + w1) (y2 + 1) S
def B_X12_plainWaiting_35 (V : Vt) (o : Nat) (K4 : Int → Int → Me → Prop) (y2 : Int) (w0 : Int) (S : Me) (Q : Int → Me → Prop) : Prop := B_X12_plainWaiting_36 V o K4 y2 w0 0 S Q
def B_X12_plainWaiting_4 (V : Vt) (o : Nat) (Q : Int → Me → Prop) : Nat → (Int → Int → Me → Prop)
  | 0 => fun _ _ _ => False
  | n + 1 => fun y1 y2 S => (((S.1 o 13) ≤ y2 → Q y1 S) ∧ (¬ (S.1 o 13) ≤ y2 → PT_X12_waits V o y2 S (fun t6 S5 => ((t6 = 0 → B_X12_plainWaiting_35 V o (B_X12_plainWaiting_4 V o Q n) y2 y1 S5 Q) ∧ (¬ t6 = 0 → (0 ≤ y2 ∧ y2 < 400) ∧ (((S5.1 (o + 4) (Int.toNat y2)) = 4 → B_X12_plainWaiting_35 V o (B_X12_plainWaiting_4 V o Q n) y2 y1 S5 Q) ∧ (¬ (S5.1 (o + 4) (Int.toNat y2)) = 4 → B_X12_plainWaiting_36 V o (B_X12_plainWaiting_4 V o Q n) y2 y1 1 S5 Q)))))))
def PT_X12_plainWaiting (V : Vt) (o : Nat) (S : Me) (Q : Int → Me → Prop) : Prop := (∃ n9 : Nat, B_X12_plainWaiting_4 V o Q n9 0 0 S)
theorem hd_X12_plainWaiting : yX12_plainWaiting.cls ≠ "java/lang/invoke/MethodHandle" ∧ yX12_plainWaiting.cls ≠ "java/lang/invoke/VarHandle" ∧ (parseMethodDescriptor yX12_plainWaiting.desc).map (fun d => d.parameters.length) = some 0 := by decide +kernel
set_option maxHeartbeats 4000000 in
set_option maxRecDepth 100000 in
theorem c_X12_plainWaiting (l : Launch) (D : va_G) (cy : ClassId × ClassId × ClassId × ClassId) (ad : Nat → Nat) {V : Vt} {S : Me} {o : Nat} (hV : fX12 V o) {Q : Int → Me → Prop} (h : PT_X12_plainWaiting V o S Q) : KM l D cy yX12_plainWaiting cX12_plainWaiting 3 (Option.some Jvm.ClassFile.FieldType.int) 1 21 ad V S [.inr (some o)] (qI Q) := by
  refine KM.of (by decide) rfl (Nat.le_of_ble_eq_true rfl) (own := RX12) (fun p e s m args below meth c A ls H locs eA C hret hml hmn hl G => ?_)
  have hl : lo ad ls [some (.inr (some o)), none, none] := hl
  have b36 : ∀ (K4 : Int → Int → Me → Prop) (hK4 : ∀ (y1 : Int) (y2 : Int) (S : Me) (H : Heap) (locs : List Loc) (ls : Array Slot), rng y1 → rng y2 → lo ad ls [some (.inr (some o)), some (.inl y1), some (.inl y2)] → Gy D cy A s.heap ad V S H locs → K4 y1 y2 S → W p l e (rmx 1 21) s m args below meth c H locs 0 0 (qm below D cy ad V A args s (qI Q)) (F0 m 4 ls [])) (y2 : Int) (w0 : Int) (w1 : Int) (S : Me) (H : Heap) (locs : List Loc) (ls : Array Slot), rng y2 → rng w0 → rng w1 → lo ad ls [some (.inr (some o)), none, some (.inl y2)] → Gy D cy A s.heap ad V S H locs → B_X12_plainWaiting_36 V o K4 y2 w0 w1 S Q → W p l e (rmx 1 21) s m args below meth c H locs 0 0 (qm below D cy ad V A args s (qI Q)) (F0 m 36 ls [vI w1, vI w0]) := by
    intro K4 hK4 y2 w0 w1 S H locs ls ry2 rw0 rw1 hl G h
    unfold B_X12_plainWaiting_36 at h
    obtain ⟨h1, h⟩ := h
    refine gx_iadd C dX12_plainWaiting_36 ?_
    refine gx_istore_n C hl dX12_plainWaiting_37 (Nat.le_of_ble_eq_true rfl) (PL' := [some (.inr (some o)), some (.inl (w0 + w1)), some (.inl y2)]) rfl (fun ls hl => ?_)
    obtain ⟨h2, h⟩ := h
    refine gx_iinc C hl dX12_plainWaiting_38 rfl (PL' := [some (.inr (some o)), some (.inl (w0 + w1)), some (.inl (y2 + 1))]) rfl (fun ls hl => ?_)
    refine gx_goto (tgt := 4) C dX12_plainWaiting_41 (by decide) ?_
    exact hK4 (w0 + w1) (y2 + 1) S H locs ls h1 h2 hl G h
  have b35 : ∀ (K4 : Int → Int → Me → Prop) (hK4 : ∀ (y1 : Int) (y2 : Int) (S : Me) (H : Heap) (locs : List Loc) (ls : Array Slot), rng y1 → rng y2 → lo ad ls [some (.inr (some o)), some (.inl y1), some (.inl y2)] → Gy D cy A s.heap ad V S H locs → K4 y1 y2 S → W p l e (rmx 1 21) s m args below meth c H locs 0 0 (qm below D cy ad V A args s (qI Q)) (F0 m 4 ls [])) (y2 : Int) (w0 : Int) (S : Me) (H : Heap) (locs : List Loc) (ls : Array Slot), rng y2 → rng w0 → lo ad ls [some (.inr (some o)), none, some (.inl y2)] → Gy D cy A s.heap ad V S H locs → B_X12_plainWaiting_35 V o K4 y2 w0 S Q → W p l e (rmx 1 21) s m args below meth c H locs 0 0 (qm below D cy ad V A args s (qI Q)) (F0 m 35 ls [vI w0]) := by
    intro K4 hK4 y2 w0 S H locs ls ry2 rw0 hl G h
    unfold B_X12_plainWaiting_35 at h
    refine gx_iconst C dX12_plainWaiting_35 ?_
    exact b36 K4 hK4 y2 w0 0 S H locs ls ry2 rw0 (show rng 0 by decide) hl G h
  have b4 : ∀ (n : Nat) (y1 : Int) (y2 : Int) (S : Me) (H : Heap) (locs : List Loc) (ls : Array Slot), rng y1 → rng y2 → lo ad ls [some (.inr (some o)), some (.inl y1), some (.inl y2)] → Gy D cy A s.heap ad V S H locs → B_X12_plainWaiting_4 V o Q n y1 y2 S → W p l e (rmx 1 21) s m args below meth c H locs 0 0 (qm below D cy ad V A args s (qI Q)) (F0 m 4 ls []) := by
    intro n
    induction n with
    | zero =>
      intro y1 y2 S H locs ls ry1 ry2 hl G h
      exact absurd h id
    | succ n ih =>
      intro y1 y2 S H locs ls ry1 ry2 hl G h
      rw [B_X12_plainWaiting_4] at h
      refine gx_iload_n C hl dX12_plainWaiting_4 rfl ?_
      refine gx_aload_n C hl dX12_plainWaiting_5 rfl ?_
      refine gx_getI C G rfl (fX12_o hV) (fo11_13 (fX12_c hV)) uw_968 (fun _ h9 => h9) dX12_plainWaiting_6 ?_
      have r3 := G.r o 13
      refine gx_icmp_ge (tgt := 44) C ry2 r3 dX12_plainWaiting_9 (by decide) (fun c4 => ?_) (fun c4 => ?_)
      · have h := h.1 c4
        refine gx_iload_n C hl dX12_plainWaiting_44 rfl ?_
        exact gx_iret C G hret ry1 h dX12_plainWaiting_45
      · have h := h.2 c4
        refine gx_iload_n C hl dX12_plainWaiting_12 rfl ?_
        refine gx_aload_n C hl dX12_plainWaiting_13 rfl ?_
        refine gx_iload_n C hl dX12_plainWaiting_14 rfl ?_
        refine gx_callV C G hl hml (c_X12_waits l D cy ad hV ry2 h) rfl (fX12_o hV) (by rw [(fX12_c hV)]; rfl) (by rw [(fX12_c hV)]; decide) rfl uw_1181 uw_1178 uw_1180 up_20 uw_9 hd_X12_waits ⟨Nat.le_of_ble_eq_true rfl, Nat.le_of_ble_eq_true rfl⟩ ⟨Nat.zero_le _, Nat.zero_le _⟩ rfl rfl (hw_le ad [.inl y1] rfl (Nat.le_of_ble_eq_true rfl)) dX12_plainWaiting_15 (kkI (fun t6 S5 H locs rt6 h G => ?_))
        refine gx_if_eq (tgt := 35) C rt6 dX12_plainWaiting_18 (by decide) (fun c7 => ?_) (fun c7 => ?_)
        · have h := h.1 c7
          exact b35 (B_X12_plainWaiting_4 V o Q n) ih y2 y1 S5 H locs ls ry2 ry1 (lo_mask (bs := [true, false, true]) hl rfl rfl) G h
        · have h := h.2 c7
          refine gx_aload_n C hl dX12_plainWaiting_21 rfl ?_
          refine gx_getF C G rfl (fX12_o hV) (fo11_15 (fX12_c hV)) (fX12_kind hV) uw_970 (fun _ h9 => h9) dX12_plainWaiting_22 ?_
          refine gx_iload_n C hl dX12_plainWaiting_25 rfl ?_
          obtain ⟨h8, h⟩ := h
          refine gx_iald C G rfl (fX12_kind_l hV) (fX12_kind_t hV) ry2 h8.1 (ixl (fX12_kind_n hV) h8.2) dX12_plainWaiting_26 ?_
          have r9 := G.r (o + 4) (Int.toNat y2)
          refine gx_iconst C dX12_plainWaiting_27 ?_
          refine gx_icmp_eq (tgt := 35) C r9 (show rng 4 by decide) dX12_plainWaiting_28 (by decide) (fun c10 => ?_) (fun c10 => ?_)
          · have h := h.1 c10
            exact b35 (B_X12_plainWaiting_4 V o Q n) ih y2 y1 S5 H locs ls ry2 ry1 (lo_mask (bs := [true, false, true]) hl rfl rfl) G h
          · have h := h.2 c10
            refine gx_iconst C dX12_plainWaiting_31 ?_
            refine gx_goto (tgt := 36) C dX12_plainWaiting_32 (by decide) ?_
            exact b36 (B_X12_plainWaiting_4 V o Q n) ih y2 y1 1 S5 H locs ls ry2 ry1 (show rng 1 by decide) (lo_mask (bs := [true, false, true]) hl rfl rfl) G h
  clear eA
  unfold PT_X12_plainWaiting at h
  refine gx_iconst C dX12_plainWaiting_0 ?_
  refine gx_istore_n C hl dX12_plainWaiting_1 (Nat.le_of_ble_eq_true rfl) (PL' := [some (.inr (some o)), some (.inl 0), none]) rfl (fun ls hl => ?_)
  refine gx_iconst C dX12_plainWaiting_2 ?_
  refine gx_istore_n C hl dX12_plainWaiting_3 (Nat.le_of_ble_eq_true rfl) (PL' := [some (.inr (some o)), some (.inl 0), some (.inl 0)]) rfl (fun ls hl => ?_)
  obtain ⟨n9, h⟩ := h
  exact b4 n9 0 0 S H locs ls (show rng 0 by decide) (show rng 0 by decide) hl G h
def B_X12_find_57 (V : Vt) (o : Nat) (Q : Me → Prop) : Nat → (Int → Me → Prop)
  | 0 => fun _ _ => False
  | n + 1 => fun y1 S => ((4 ≤ y1 → Q S) ∧ (¬ 4 ≤ y1 → PT_X12_canGo V o 1 y1 S (fun t3 S2 => ((t3 = 0 → (rng (y1 + 1)) ∧ B_X12_find_57 V o Q n (y1 + 1) S2) ∧ (¬ t3 = 0 → PT_X12_choose V o 1 y1 (-2) S2 (fun S6 => Q S6))))))
def B_X12_find_35 (V : Vt) (o : Nat) (S : Me) (Q : Me → Prop) : Prop := PT_X12_canGo V o 4 (-2) S (fun t8 S7 => ((t8 = 0 → (∃ n9 : Nat, B_X12_find_57 V o Q n9 0 S7)) ∧ (¬ t8 = 0 → PT_X12_choose V o 4 (-2) (-2) S7 (fun S10 => Q S10))))
def B_X12_find_165 (V : Vt) (o : Nat) (K93 : Int → Me → Prop) (y1 : Int) (S : Me) (Q : Me → Prop) : Prop := (rng (y1 + 1)) ∧ K93 (y1 + 1) S
def B_X12_find_146 (V : Vt) (o : Nat) (K93 : Int → Me → Prop) (y1 : Int) (y2 : Int) (y3 : Int) (y4 : Int) (S : Me) (Q : Me → Prop) : Prop := PT_X12_canGo V o y3 y4 S (fun t13 S12 => ((t13 = 0 → B_X12_find_165 V o K93 y1 S12 Q) ∧ (¬ t13 = 0 → PT_X12_choose V o y3 y4 y2 S12 (fun S15 => Q S15))))
def B_X12_find_93 (V : Vt) (o : Nat) (Q : Me → Prop) : Nat → (Int → Me → Prop)
  | 0 => fun _ _ => False
  | n + 1 => fun y1 S => (((S.1 o 39) ≤ y1 → Q S) ∧ (¬ (S.1 o 39) ≤ y1 → (0 ≤ y1 ∧ y1 < 12) ∧ PT_X12_commandOf V o (S.1 (o + 22) (Int.toNat y1)) S (fun t21 S20 => (0 ≤ (S.1 (o + 22) (Int.toNat y1)) ∧ (S.1 (o + 22) (Int.toNat y1)) < 400) ∧ PT_X12_bankOf V (S20.1 (o + 6) (Int.toNat (S.1 (o + 22) (Int.toNat y1)))) S20 (fun t25 S24 => PT_X12_isHeld V o (S.1 (o + 22) (Int.toNat y1)) S24 (fun t27 S26 => ((¬ t27 = 0 → B_X12_find_165 V o (B_X12_find_93 V o Q n) y1 S26 Q) ∧ (t27 = 0 → ((1 < t21 → B_X12_find_146 V o (B_X12_find_93 V o Q n) y1 (S.1 (o + 22) (Int.toNat y1)) t21 t25 S26 Q) ∧ (¬ 1 < t21 → PT_X12_isFirst V o y1 S26 (fun t31 S30 => ((t31 = 0 → B_X12_find_165 V o (B_X12_find_93 V o Q n) y1 S30 Q) ∧ (¬ t31 = 0 → B_X12_find_146 V o (B_X12_find_93 V o Q n) y1 (S.1 (o + 22) (Int.toNat y1)) t21 t25 S30 Q))))))))))))
def B_X12_find_87 (V : Vt) (o : Nat) (S : Me) (Q : Me → Prop) : Prop := PT_X12_findOrder V o S (fun S33 => (∃ n9 : Nat, B_X12_find_93 V o Q n9 0 S33))
def PT_X12_find (V : Vt) (o : Nat) (S : Me) (Q : Me → Prop) : Prop := PT_X12_choose V o (-2) (-2) (-2) S (fun S34 => (((S34.1 o 3) ≤ (S34.1 o 7) → B_X12_find_35 V o S34 Q) ∧ (¬ (S34.1 o 3) ≤ (S34.1 o 7) → (((S34.1 o 7) ≤ 0 → B_X12_find_87 V o S34 Q) ∧ (¬ (S34.1 o 7) ≤ 0 → PT_X12_plainWaiting V o S34 (fun t41 S40 => ((¬ t41 = 0 → B_X12_find_87 V o S40 Q) ∧ (t41 = 0 → B_X12_find_35 V o S40 Q))))))))
theorem hd_X12_find : yX12_find.cls ≠ "java/lang/invoke/MethodHandle" ∧ yX12_find.cls ≠ "java/lang/invoke/VarHandle" ∧ (parseMethodDescriptor yX12_find.desc).map (fun d => d.parameters.length) = some 0 := by decide +kernel
set_option maxHeartbeats 4000000 in
set_option maxRecDepth 100000 in
theorem c_X12_find (l : Launch) (D : va_G) (cy : ClassId × ClassId × ClassId × ClassId) (ad : Nat → Nat) {V : Vt} {S : Me} {o : Nat} (hV : fX12 V o) {Q : Me → Prop} (h : PT_X12_find V o S Q) : KM l D cy yX12_find cX12_find 5 (Option.none : Option Jvm.ClassFile.FieldType) 4 84 ad V S [.inr (some o)] (qV Q) := by
  refine KM.of (by decide) rfl (Nat.le_of_ble_eq_true rfl) (own := RX12) (fun p e s m args below meth c A ls H locs eA C hret hml hmn hl G => ?_)
  have hl : lo ad ls [some (.inr (some o)), none, none, none, none] := hl
  have b57 : ∀ (n : Nat) (y1 : Int) (S : Me) (H : Heap) (locs : List Loc) (ls : Array Slot), rng y1 → lo ad ls [some (.inr (some o)), some (.inl y1), none, none, none] → Gy D cy A s.heap ad V S H locs → B_X12_find_57 V o Q n y1 S → W p l e (rmx 4 84) s m args below meth c H locs 0 0 (qm below D cy ad V A args s (qV Q)) (F0 m 57 ls []) := by
    intro n
    induction n with
    | zero =>
      intro y1 S H locs ls ry1 hl G h
      exact absurd h id
    | succ n ih =>
      intro y1 S H locs ls ry1 hl G h
      rw [B_X12_find_57] at h
      refine gx_iload_n C hl dX12_find_57 rfl ?_
      refine gx_iconst C dX12_find_58 ?_
      refine gx_icmp_ge (tgt := 86) C ry1 (show rng 4 by decide) dX12_find_59 (by decide) (fun c1 => ?_) (fun c1 => ?_)
      · have h := h.1 c1
        exact gx_vret C G hret h dX12_find_86
      · have h := h.2 c1
        refine gx_aload_n C hl dX12_find_62 rfl ?_
        refine gx_iconst C dX12_find_63 ?_
        refine gx_iload_n C hl dX12_find_64 rfl ?_
        refine gx_callV C G hl hml (c_X12_canGo l D cy ad hV (show rng 1 by decide) ry1 h) rfl (fX12_o hV) (by rw [(fX12_c hV)]; rfl) (by rw [(fX12_c hV)]; decide) rfl uw_1205 uw_1202 uw_1204 up_26 uw_9 hd_X12_canGo ⟨Nat.le_of_ble_eq_true rfl, Nat.le_of_ble_eq_true rfl⟩ ⟨Nat.zero_le _, Nat.zero_le _⟩ rfl rfl (hw_le ad [] rfl (Nat.le_of_ble_eq_true rfl)) dX12_find_65 (kkI (fun t3 S2 H locs rt3 h G => ?_))
        refine gx_if_eq (tgt := 80) C rt3 dX12_find_68 (by decide) (fun c4 => ?_) (fun c4 => ?_)
        · have h := h.1 c4
          obtain ⟨h5, h⟩ := h
          refine gx_iinc C hl dX12_find_80 rfl (PL' := [some (.inr (some o)), some (.inl (y1 + 1)), none, none, none]) rfl (fun ls hl => ?_)
          refine gx_goto (tgt := 57) C dX12_find_83 (by decide) ?_
          exact ih (y1 + 1) S2 H locs ls h5 hl G h
        · have h := h.2 c4
          refine gx_aload_n C hl dX12_find_71 rfl ?_
          refine gx_iconst C dX12_find_72 ?_
          refine gx_iload_n C hl dX12_find_73 rfl ?_
          refine gx_bipush C dX12_find_74 (by decide) ?_
          refine gx_callV C G hl hml (c_X12_choose l D cy ad hV (show rng 1 by decide) ry1 (show rng (-2) by decide) h) rfl (fX12_o hV) (by rw [(fX12_c hV)]; rfl) (by rw [(fX12_c hV)]; decide) rfl uw_1197 uw_1194 uw_1196 up_24 uw_9 hd_X12_choose ⟨Nat.le_of_ble_eq_true rfl, Nat.le_of_ble_eq_true rfl⟩ ⟨Nat.zero_le _, Nat.zero_le _⟩ rfl rfl (hw_le ad [] rfl (Nat.le_of_ble_eq_true rfl)) dX12_find_76 (kkV (fun S6 H locs h G => ?_))
          exact gx_vret C G hret h dX12_find_79
  have b35 : ∀ (S : Me) (H : Heap) (locs : List Loc) (ls : Array Slot), lo ad ls [some (.inr (some o)), none, none, none, none] → Gy D cy A s.heap ad V S H locs → B_X12_find_35 V o S Q → W p l e (rmx 4 84) s m args below meth c H locs 0 0 (qm below D cy ad V A args s (qV Q)) (F0 m 35 ls []) := by
    intro S H locs ls hl G h
    unfold B_X12_find_35 at h
    refine gx_aload_n C hl dX12_find_35 rfl ?_
    refine gx_iconst C dX12_find_36 ?_
    refine gx_bipush C dX12_find_37 (by decide) ?_
    refine gx_callV C G hl hml (c_X12_canGo l D cy ad hV (show rng 4 by decide) (show rng (-2) by decide) h) rfl (fX12_o hV) (by rw [(fX12_c hV)]; rfl) (by rw [(fX12_c hV)]; decide) rfl uw_1205 uw_1202 uw_1204 up_26 uw_9 hd_X12_canGo ⟨Nat.le_of_ble_eq_true rfl, Nat.le_of_ble_eq_true rfl⟩ ⟨Nat.zero_le _, Nat.zero_le _⟩ rfl rfl (hw_le ad [] rfl (Nat.le_of_ble_eq_true rfl)) dX12_find_39 (kkI (fun t8 S7 H locs rt8 h G => ?_))
    refine gx_if_eq (tgt := 55) C rt8 dX12_find_42 (by decide) (fun c9 => ?_) (fun c9 => ?_)
    · have h := h.1 c9
      refine gx_iconst C dX12_find_55 ?_
      refine gx_istore_n C hl dX12_find_56 (Nat.le_of_ble_eq_true rfl) (PL' := [some (.inr (some o)), some (.inl 0), none, none, none]) rfl (fun ls hl => ?_)
      obtain ⟨n9, h⟩ := h
      exact b57 n9 0 S7 H locs ls (show rng 0 by decide) hl G h
    · have h := h.2 c9
      refine gx_aload_n C hl dX12_find_45 rfl ?_
      refine gx_iconst C dX12_find_46 ?_
      refine gx_bipush C dX12_find_47 (by decide) ?_
      refine gx_bipush C dX12_find_49 (by decide) ?_
      refine gx_callV C G hl hml (c_X12_choose l D cy ad hV (show rng 4 by decide) (show rng (-2) by decide) (show rng (-2) by decide) h) rfl (fX12_o hV) (by rw [(fX12_c hV)]; rfl) (by rw [(fX12_c hV)]; decide) rfl uw_1197 uw_1194 uw_1196 up_24 uw_9 hd_X12_choose ⟨Nat.le_of_ble_eq_true rfl, Nat.le_of_ble_eq_true rfl⟩ ⟨Nat.zero_le _, Nat.zero_le _⟩ rfl rfl (hw_le ad [] rfl (Nat.le_of_ble_eq_true rfl)) dX12_find_51 (kkV (fun S10 H locs h G => ?_))
      exact gx_vret C G hret h dX12_find_54
  have b165 : ∀ (K93 : Int → Me → Prop) (hK93 : ∀ (y1 : Int) (S : Me) (H : Heap) (locs : List Loc) (ls : Array Slot), rng y1 → lo ad ls [some (.inr (some o)), some (.inl y1), none, none, none] → Gy D cy A s.heap ad V S H locs → K93 y1 S → W p l e (rmx 4 84) s m args below meth c H locs 0 0 (qm below D cy ad V A args s (qV Q)) (F0 m 93 ls [])) (y1 : Int) (S : Me) (H : Heap) (locs : List Loc) (ls : Array Slot), rng y1 → lo ad ls [some (.inr (some o)), some (.inl y1), none, none, none] → Gy D cy A s.heap ad V S H locs → B_X12_find_165 V o K93 y1 S Q → W p l e (rmx 4 84) s m args below meth c H locs 0 0 (qm below D cy ad V A args s (qV Q)) (F0 m 165 ls []) := by
    intro K93 hK93 y1 S H locs ls ry1 hl G h
    unfold B_X12_find_165 at h
    obtain ⟨h11, h⟩ := h
    refine gx_iinc C hl dX12_find_165 rfl (PL' := [some (.inr (some o)), some (.inl (y1 + 1)), none, none, none]) rfl (fun ls hl => ?_)
    refine gx_goto (tgt := 93) C dX12_find_168 (by decide) ?_
    exact hK93 (y1 + 1) S H locs ls h11 hl G h
  have b146 : ∀ (K93 : Int → Me → Prop) (hK93 : ∀ (y1 : Int) (S : Me) (H : Heap) (locs : List Loc) (ls : Array Slot), rng y1 → lo ad ls [some (.inr (some o)), some (.inl y1), none, none, none] → Gy D cy A s.heap ad V S H locs → K93 y1 S → W p l e (rmx 4 84) s m args below meth c H locs 0 0 (qm below D cy ad V A args s (qV Q)) (F0 m 93 ls [])) (y1 : Int) (y2 : Int) (y3 : Int) (y4 : Int) (S : Me) (H : Heap) (locs : List Loc) (ls : Array Slot), rng y1 → rng y2 → rng y3 → rng y4 → lo ad ls [some (.inr (some o)), some (.inl y1), some (.inl y2), some (.inl y3), some (.inl y4)] → Gy D cy A s.heap ad V S H locs → B_X12_find_146 V o K93 y1 y2 y3 y4 S Q → W p l e (rmx 4 84) s m args below meth c H locs 0 0 (qm below D cy ad V A args s (qV Q)) (F0 m 146 ls []) := by
    intro K93 hK93 y1 y2 y3 y4 S H locs ls ry1 ry2 ry3 ry4 hl G h
    unfold B_X12_find_146 at h
    refine gx_aload_n C hl dX12_find_146 rfl ?_
    refine gx_iload_n C hl dX12_find_147 rfl ?_
    refine gx_iload C hl dX12_find_148 rfl ?_
    refine gx_callV C G hl hml (c_X12_canGo l D cy ad hV ry3 ry4 h) rfl (fX12_o hV) (by rw [(fX12_c hV)]; rfl) (by rw [(fX12_c hV)]; decide) rfl uw_1205 uw_1202 uw_1204 up_26 uw_9 hd_X12_canGo ⟨Nat.le_of_ble_eq_true rfl, Nat.le_of_ble_eq_true rfl⟩ ⟨Nat.zero_le _, Nat.zero_le _⟩ rfl rfl (hw_le ad [] rfl (Nat.le_of_ble_eq_true rfl)) dX12_find_150 (kkI (fun t13 S12 H locs rt13 h G => ?_))
    refine gx_if_eq (tgt := 165) C rt13 dX12_find_153 (by decide) (fun c14 => ?_) (fun c14 => ?_)
    · have h := h.1 c14
      exact b165 K93 hK93 y1 S12 H locs ls ry1 (lo_mask (bs := [true, true, false, false, false]) hl rfl rfl) G h
    · have h := h.2 c14
      refine gx_aload_n C hl dX12_find_156 rfl ?_
      refine gx_iload_n C hl dX12_find_157 rfl ?_
      refine gx_iload C hl dX12_find_158 rfl ?_
      refine gx_iload_n C hl dX12_find_160 rfl ?_
      refine gx_callV C G hl hml (c_X12_choose l D cy ad hV ry3 ry4 ry2 h) rfl (fX12_o hV) (by rw [(fX12_c hV)]; rfl) (by rw [(fX12_c hV)]; decide) rfl uw_1197 uw_1194 uw_1196 up_24 uw_9 hd_X12_choose ⟨Nat.le_of_ble_eq_true rfl, Nat.le_of_ble_eq_true rfl⟩ ⟨Nat.zero_le _, Nat.zero_le _⟩ rfl rfl (hw_le ad [] rfl (Nat.le_of_ble_eq_true rfl)) dX12_find_161 (kkV (fun S15 H locs h G => ?_))
      exact gx_vret C G hret h dX12_find_164
  have b93 : ∀ (n : Nat) (y1 : Int) (S : Me) (H : Heap) (locs : List Loc) (ls : Array Slot), rng y1 → lo ad ls [some (.inr (some o)), some (.inl y1), none, none, none] → Gy D cy A s.heap ad V S H locs → B_X12_find_93 V o Q n y1 S → W p l e (rmx 4 84) s m args below meth c H locs 0 0 (qm below D cy ad V A args s (qV Q)) (F0 m 93 ls []) := by
    intro n
    induction n with
    | zero =>
      intro y1 S H locs ls ry1 hl G h
      exact absurd h id
    | succ n ih =>
      intro y1 S H locs ls ry1 hl G h
      rw [B_X12_find_93] at h
      refine gx_iload_n C hl dX12_find_93 rfl ?_
      refine gx_aload_n C hl dX12_find_94 rfl ?_
      refine gx_getI C G rfl (fX12_o hV) (fo11_39 (fX12_c hV)) uw_994 (fun _ h9 => h9) dX12_find_95 ?_
      have r16 := G.r o 39
      refine gx_icmp_ge (tgt := 171) C ry1 r16 dX12_find_98 (by decide) (fun c17 => ?_) (fun c17 => ?_)
      · have h := h.1 c17
        exact gx_vret C G hret h dX12_find_171
      · have h := h.2 c17
        refine gx_aload_n C hl dX12_find_101 rfl ?_
        refine gx_getF C G rfl (fX12_o hV) (fo11_38 (fX12_c hV)) (fX12_row0 hV) uw_993 (fun _ h9 => h9) dX12_find_102 ?_
        refine gx_iload_n C hl dX12_find_105 rfl ?_
        obtain ⟨h18, h⟩ := h
        refine gx_iald C G rfl (fX12_row0_l hV) (fX12_row0_t hV) ry1 h18.1 (ixl (fX12_row0_n hV) h18.2) dX12_find_106 ?_
        have r19 := G.r (o + 22) (Int.toNat y1)
        refine gx_istore_n C hl dX12_find_107 (Nat.le_of_ble_eq_true rfl) (PL' := [some (.inr (some o)), some (.inl y1), some (.inl (S.1 (o + 22) (Int.toNat y1))), none, none]) rfl (fun ls hl => ?_)
        refine gx_aload_n C hl dX12_find_108 rfl ?_
        refine gx_iload_n C hl dX12_find_109 rfl ?_
        refine gx_callV C G hl hml (c_X12_commandOf l D cy ad hV r19 h) rfl (fX12_o hV) (by rw [(fX12_c hV)]; rfl) (by rw [(fX12_c hV)]; decide) rfl uw_1243 uw_1240 uw_1242 up_34 uw_9 hd_X12_commandOf ⟨Nat.le_of_ble_eq_true rfl, Nat.le_of_ble_eq_true rfl⟩ ⟨Nat.zero_le _, Nat.zero_le _⟩ rfl rfl (hw_le ad [] rfl (Nat.le_of_ble_eq_true rfl)) dX12_find_110 (kkI (fun t21 S20 H locs rt21 h G => ?_))
        refine gx_istore_n C hl dX12_find_113 (Nat.le_of_ble_eq_true rfl) (PL' := [some (.inr (some o)), some (.inl y1), some (.inl (S.1 (o + 22) (Int.toNat y1))), some (.inl t21), none]) rfl (fun ls hl => ?_)
        refine gx_aload_n C hl dX12_find_114 rfl ?_
        refine gx_getF C G rfl (fX12_o hV) (fo11_17 (fX12_c hV)) (fX12_address hV) uw_972 (fun _ h9 => h9) dX12_find_115 ?_
        refine gx_iload_n C hl dX12_find_118 rfl ?_
        obtain ⟨h22, h⟩ := h
        refine gx_iald C G rfl (fX12_address_l hV) (fX12_address_t hV) r19 h22.1 (ixl (fX12_address_n hV) h22.2) dX12_find_119 ?_
        have r23 := G.r (o + 6) (Int.toNat (S.1 (o + 22) (Int.toNat y1)))
        refine gx_callS C G hl hml (c_X12_bankOf l D cy ad r23 h) uw_1236 uw_1234 uw_1235 uw_9 hd_X12_bankOf ⟨Nat.le_of_ble_eq_true rfl, Nat.le_of_ble_eq_true rfl⟩ ⟨Nat.zero_le _, Nat.zero_le _⟩ rfl rfl (hw_le ad [] rfl (Nat.le_of_ble_eq_true rfl)) dX12_find_120 (kkI (fun t25 S24 H locs rt25 h G => ?_))
        refine gx_istore C hl dX12_find_123 (Nat.le_of_ble_eq_true rfl) (PL' := [some (.inr (some o)), some (.inl y1), some (.inl (S.1 (o + 22) (Int.toNat y1))), some (.inl t21), some (.inl t25)]) rfl (fun ls hl => ?_)
        refine gx_aload_n C hl dX12_find_125 rfl ?_
        refine gx_iload_n C hl dX12_find_126 rfl ?_
        refine gx_callV C G hl hml (c_X12_isHeld l D cy ad hV r19 h) rfl (fX12_o hV) (by rw [(fX12_c hV)]; rfl) (by rw [(fX12_c hV)]; decide) rfl uw_1247 uw_1244 uw_1246 up_35 uw_9 hd_X12_isHeld ⟨Nat.le_of_ble_eq_true rfl, Nat.le_of_ble_eq_true rfl⟩ ⟨Nat.zero_le _, Nat.zero_le _⟩ rfl rfl (hw_le ad [] rfl (Nat.le_of_ble_eq_true rfl)) dX12_find_127 (kkI (fun t27 S26 H locs rt27 h G => ?_))
        refine gx_if_ne (tgt := 165) C rt27 dX12_find_130 (by decide) (fun c28 => ?_) (fun c28 => ?_)
        · have h := h.1 c28
          exact b165 (B_X12_find_93 V o Q n) ih y1 S26 H locs ls ry1 (lo_mask (bs := [true, true, false, false, false]) hl rfl rfl) G h
        · have h := h.2 c28
          refine gx_iload_n C hl dX12_find_133 rfl ?_
          refine gx_iconst C dX12_find_134 ?_
          refine gx_icmp_gt (tgt := 146) C rt21 (show rng 1 by decide) dX12_find_135 (by decide) (fun c29 => ?_) (fun c29 => ?_)
          · have h := h.1 c29
            exact b146 (B_X12_find_93 V o Q n) ih y1 (S.1 (o + 22) (Int.toNat y1)) t21 t25 S26 H locs ls ry1 r19 rt21 rt25 hl G h
          · have h := h.2 c29
            refine gx_aload_n C hl dX12_find_138 rfl ?_
            refine gx_iload_n C hl dX12_find_139 rfl ?_
            refine gx_callV C G hl hml (c_X12_isFirst l D cy ad hV ry1 h) rfl (fX12_o hV) (by rw [(fX12_c hV)]; rfl) (by rw [(fX12_c hV)]; decide) rfl uw_1251 uw_1248 uw_1250 up_36 uw_9 hd_X12_isFirst ⟨Nat.le_of_ble_eq_true rfl, Nat.le_of_ble_eq_true rfl⟩ ⟨Nat.zero_le _, Nat.zero_le _⟩ rfl rfl (hw_le ad [] rfl (Nat.le_of_ble_eq_true rfl)) dX12_find_140 (kkI (fun t31 S30 H locs rt31 h G => ?_))
            refine gx_if_eq (tgt := 165) C rt31 dX12_find_143 (by decide) (fun c32 => ?_) (fun c32 => ?_)
            · have h := h.1 c32
              exact b165 (B_X12_find_93 V o Q n) ih y1 S30 H locs ls ry1 (lo_mask (bs := [true, true, false, false, false]) hl rfl rfl) G h
            · have h := h.2 c32
              exact b146 (B_X12_find_93 V o Q n) ih y1 (S.1 (o + 22) (Int.toNat y1)) t21 t25 S30 H locs ls ry1 r19 rt21 rt25 hl G h
  have b87 : ∀ (S : Me) (H : Heap) (locs : List Loc) (ls : Array Slot), lo ad ls [some (.inr (some o)), none, none, none, none] → Gy D cy A s.heap ad V S H locs → B_X12_find_87 V o S Q → W p l e (rmx 4 84) s m args below meth c H locs 0 0 (qm below D cy ad V A args s (qV Q)) (F0 m 87 ls []) := by
    intro S H locs ls hl G h
    unfold B_X12_find_87 at h
    refine gx_aload_n C hl dX12_find_87 rfl ?_
    refine gx_callV C G hl hml (c_X12_findOrder l D cy ad hV h) rfl (fX12_o hV) (by rw [(fX12_c hV)]; rfl) (by rw [(fX12_c hV)]; decide) rfl uw_1225 uw_1222 uw_1224 up_31 uw_9 hd_X12_findOrder ⟨Nat.le_of_ble_eq_true rfl, Nat.le_of_ble_eq_true rfl⟩ ⟨Nat.zero_le _, Nat.zero_le _⟩ rfl rfl (hw_le ad [] rfl (Nat.le_of_ble_eq_true rfl)) dX12_find_88 (kkV (fun S33 H locs h G => ?_))
    refine gx_iconst C dX12_find_91 ?_
    refine gx_istore_n C hl dX12_find_92 (Nat.le_of_ble_eq_true rfl) (PL' := [some (.inr (some o)), some (.inl 0), none, none, none]) rfl (fun ls hl => ?_)
    obtain ⟨n9, h⟩ := h
    exact b93 n9 0 S33 H locs ls (show rng 0 by decide) hl G h
  clear eA
  unfold PT_X12_find at h
  refine gx_aload_n C hl dX12_find_0 rfl ?_
  refine gx_bipush C dX12_find_1 (by decide) ?_
  refine gx_bipush C dX12_find_3 (by decide) ?_
  refine gx_bipush C dX12_find_5 (by decide) ?_
  refine gx_callV C G hl hml (c_X12_choose l D cy ad hV (show rng (-2) by decide) (show rng (-2) by decide) (show rng (-2) by decide) h) rfl (fX12_o hV) (by rw [(fX12_c hV)]; rfl) (by rw [(fX12_c hV)]; decide) rfl uw_1197 uw_1194 uw_1196 up_24 uw_9 hd_X12_choose ⟨Nat.le_of_ble_eq_true rfl, Nat.le_of_ble_eq_true rfl⟩ ⟨Nat.zero_le _, Nat.zero_le _⟩ rfl rfl (hw_le ad [] rfl (Nat.le_of_ble_eq_true rfl)) dX12_find_7 (kkV (fun S34 H locs h G => ?_))
  refine gx_aload_n C hl dX12_find_10 rfl ?_
  refine gx_getI C G rfl (fX12_o hV) (fo11_7 (fX12_c hV)) uw_962 (fun _ h9 => h9) dX12_find_11 ?_
  have r35 := G.r o 7
  refine gx_aload_n C hl dX12_find_14 rfl ?_
  refine gx_getI C G rfl (fX12_o hV) (fo11_3 (fX12_c hV)) uw_958 (fun _ h9 => h9) dX12_find_15 ?_
  have r36 := G.r o 3
  refine gx_icmp_ge (tgt := 35) C r35 r36 dX12_find_18 (by decide) (fun c37 => ?_) (fun c37 => ?_)
  · have h := h.1 c37
    exact b35 S34 H locs ls hl G h
  · have h := h.2 c37
    refine gx_aload_n C hl dX12_find_21 rfl ?_
    refine gx_getI C G rfl (fX12_o hV) (fo11_7 (fX12_c hV)) uw_962 (fun _ h9 => h9) dX12_find_22 ?_
    have r38 := G.r o 7
    refine gx_if_le (tgt := 87) C r38 dX12_find_25 (by decide) (fun c39 => ?_) (fun c39 => ?_)
    · have h := h.1 c39
      exact b87 S34 H locs ls hl G h
    · have h := h.2 c39
      refine gx_aload_n C hl dX12_find_28 rfl ?_
      refine gx_callV C G hl hml (c_X12_plainWaiting l D cy ad hV h) rfl (fX12_o hV) (by rw [(fX12_c hV)]; rfl) (by rw [(fX12_c hV)]; decide) rfl uw_1201 uw_1198 uw_1200 up_25 uw_9 hd_X12_plainWaiting ⟨Nat.le_of_ble_eq_true rfl, Nat.le_of_ble_eq_true rfl⟩ ⟨Nat.zero_le _, Nat.zero_le _⟩ rfl rfl (hw_le ad [] rfl (Nat.le_of_ble_eq_true rfl)) dX12_find_29 (kkI (fun t41 S40 H locs rt41 h G => ?_))
      refine gx_if_ne (tgt := 87) C rt41 dX12_find_32 (by decide) (fun c42 => ?_) (fun c42 => ?_)
      · have h := h.1 c42
        exact b87 S40 H locs ls hl G h
      · have h := h.2 c42
        exact b35 S40 H locs ls hl G h
def PT_X12_finish (V : Vt) (o : Nat) (x1 : Int) (S : Me) (Q : Me → Prop) : Prop := (0 ≤ x1 ∧ x1 < 400) ∧ ∀ S3 : Me, S3 = sI S (o + 10) (Int.toNat x1) (S.1 o 6) → (rng ((S3.1 o 14) - 1)) ∧ ∀ S6 : Me, S6 = sI S3 o 14 ((S3.1 o 14) - 1) → (0 ≤ x1 ∧ x1 < 400) ∧ (((S6.1 (o + 4) (Int.toNat x1)) = 4 → Q S6) ∧ (¬ (S6.1 (o + 4) (Int.toNat x1)) = 4 → (0 ≤ x1 ∧ x1 < 400) ∧ (0 ≤ (S6.1 (o + 5) (Int.toNat x1)) ∧ (S6.1 (o + 5) (Int.toNat x1)) < 4) ∧ (rng ((S6.1 (o + 12) (Int.toNat (S6.1 (o + 5) (Int.toNat x1)))) + 1)) ∧ (0 ≤ (S6.1 (o + 5) (Int.toNat x1)) ∧ (S6.1 (o + 5) (Int.toNat x1)) < 4) ∧ ∀ S16 : Me, S16 = sI S6 (o + 12) (Int.toNat (S6.1 (o + 5) (Int.toNat x1))) ((S6.1 (o + 12) (Int.toNat (S6.1 (o + 5) (Int.toNat x1)))) + 1) → Q S16))
theorem hd_X12_finish : yX12_finish.cls ≠ "java/lang/invoke/MethodHandle" ∧ yX12_finish.cls ≠ "java/lang/invoke/VarHandle" ∧ (parseMethodDescriptor yX12_finish.desc).map (fun d => d.parameters.length) = some 1 := by decide +kernel
set_option maxHeartbeats 4000000 in
set_option maxRecDepth 100000 in
theorem c_X12_finish (l : Launch) (D : va_G) (cy : ClassId × ClassId × ClassId × ClassId) (ad : Nat → Nat) {V : Vt} {S : Me} {o : Nat} {x1 : Int} (hV : fX12 V o) (rx1 : rng x1) {Q : Me → Prop} (h : PT_X12_finish V o x1 S Q) : KM l D cy yX12_finish cX12_finish 2 (Option.none : Option Jvm.ClassFile.FieldType) 0 0 ad V S [.inr (some o), .inl x1] (qV Q) := by
  refine KM.of (by decide) rfl (Nat.le_of_ble_eq_true rfl) (own := RX12) (fun p e s m args below meth c A ls H locs eA C hret hml hmn hl G => ?_)
  have hl : lo ad ls [some (.inr (some o)), some (.inl x1)] := hl
  clear eA
  unfold PT_X12_finish at h
  refine gx_aload_n C hl dX12_finish_0 rfl ?_
  refine gx_getF C G rfl (fX12_o hV) (fo11_21 (fX12_c hV)) (fX12_done hV) uw_976 (fun _ h9 => h9) dX12_finish_1 ?_
  refine gx_iload_n C hl dX12_finish_4 rfl ?_
  refine gx_aload_n C hl dX12_finish_5 rfl ?_
  refine gx_getI C G rfl (fX12_o hV) (fo11_6 (fX12_c hV)) uw_961 (fun _ h9 => h9) dX12_finish_6 ?_
  have r1 := G.r o 6
  obtain ⟨h2, h⟩ := h
  refine gx_iast C G rfl (fX12_done_l hV) (fX12_done_t hV) rx1 r1 h2.1 (ixl (fX12_done_n hV) h2.2) dX12_finish_9 (fun H locs G => ?_)
  obtain ⟨S3, eS3⟩ : ∃ q9 : Me, q9 = sI S (o + 10) (Int.toNat x1) (S.1 o 6) := ⟨_, rfl⟩
  have h := h S3 eS3
  rw [← eS3] at G
  refine gx_aload_n C hl dX12_finish_10 rfl ?_
  refine gx_dupR C dX12_finish_11 ?_
  refine gx_getI C G rfl (fX12_o hV) (fo11_14 (fX12_c hV)) uw_969 (fun _ h9 => h9) dX12_finish_12 ?_
  have r4 := G.r o 14
  refine gx_iconst C dX12_finish_15 ?_
  obtain ⟨h5, h⟩ := h
  refine gx_isub C dX12_finish_16 ?_
  refine gx_putI C G rfl (fX12_o hV) (fo11_14 (fX12_c hV)) h5 uw_969 (fun _ h9 => h9) dX12_finish_17 (fun H locs G => ?_)
  obtain ⟨S6, eS6⟩ : ∃ q9 : Me, q9 = sI S3 o 14 ((S3.1 o 14) - 1) := ⟨_, rfl⟩
  have h := h S6 eS6
  rw [← eS6] at G
  refine gx_aload_n C hl dX12_finish_20 rfl ?_
  refine gx_getF C G rfl (fX12_o hV) (fo11_15 (fX12_c hV)) (fX12_kind hV) uw_970 (fun _ h9 => h9) dX12_finish_21 ?_
  refine gx_iload_n C hl dX12_finish_24 rfl ?_
  obtain ⟨h7, h⟩ := h
  refine gx_iald C G rfl (fX12_kind_l hV) (fX12_kind_t hV) rx1 h7.1 (ixl (fX12_kind_n hV) h7.2) dX12_finish_25 ?_
  have r8 := G.r (o + 4) (Int.toNat x1)
  refine gx_iconst C dX12_finish_26 ?_
  refine gx_icmp_eq (tgt := 45) C r8 (show rng 4 by decide) dX12_finish_27 (by decide) (fun c9 => ?_) (fun c9 => ?_)
  · have h := h.1 c9
    exact gx_vret C G hret h dX12_finish_45
  · have h := h.2 c9
    refine gx_aload_n C hl dX12_finish_30 rfl ?_
    refine gx_getF C G rfl (fX12_o hV) (fo11_23 (fX12_c hV)) (fX12_doneOf hV) uw_978 (fun _ h9 => h9) dX12_finish_31 ?_
    refine gx_aload_n C hl dX12_finish_34 rfl ?_
    refine gx_getF C G rfl (fX12_o hV) (fo11_16 (fX12_c hV)) (fX12_asker hV) uw_971 (fun _ h9 => h9) dX12_finish_35 ?_
    refine gx_iload_n C hl dX12_finish_38 rfl ?_
    obtain ⟨h10, h⟩ := h
    refine gx_iald C G rfl (fX12_asker_l hV) (fX12_asker_t hV) rx1 h10.1 (ixl (fX12_asker_n hV) h10.2) dX12_finish_39 ?_
    have r11 := G.r (o + 5) (Int.toNat x1)
    refine gx_dup2RI C dX12_finish_40 ?_
    obtain ⟨h12, h⟩ := h
    refine gx_iald C G rfl (fX12_doneOf_l hV) (fX12_doneOf_t hV) r11 h12.1 (ixl (fX12_doneOf_n hV) h12.2) dX12_finish_41 ?_
    have r13 := G.r (o + 12) (Int.toNat (S6.1 (o + 5) (Int.toNat x1)))
    refine gx_iconst C dX12_finish_42 ?_
    obtain ⟨h14, h⟩ := h
    refine gx_iadd C dX12_finish_43 ?_
    obtain ⟨h15, h⟩ := h
    refine gx_iast C G rfl (fX12_doneOf_l hV) (fX12_doneOf_t hV) r11 h14 h15.1 (ixl (fX12_doneOf_n hV) h15.2) dX12_finish_44 (fun H locs G => ?_)
    obtain ⟨S16, eS16⟩ : ∃ q9 : Me, q9 = sI S6 (o + 12) (Int.toNat (S6.1 (o + 5) (Int.toNat x1))) ((S6.1 (o + 12) (Int.toNat (S6.1 (o + 5) (Int.toNat x1)))) + 1) := ⟨_, rfl⟩
    have h := h S16 eS16
    rw [← eS16] at G
    exact gx_vret C G hret h dX12_finish_45
def B_X12_access_79 (V : Vt) (o : Nat) (x1 : Int) (S : Me) (Q : Me → Prop) : Prop := PT_X12_finish V o x1 S (fun S1 => Q S1)
def B_X12_access_40 (V : Vt) (o : Nat) (x1 : Int) (y2 : Int) (y3 : Int) (S : Me) (Q : Me → Prop) : Prop := (0 ≤ x1 ∧ x1 < 400) ∧ (((S.1 (o + 4) (Int.toNat x1)) = 0 → B_X12_access_79 V o x1 S Q) ∧ (¬ (S.1 (o + 4) (Int.toNat x1)) = 0 → (0 ≤ x1 ∧ x1 < 400) ∧ (0 ≤ x1 ∧ x1 < 400) ∧ (0 ≤ x1 ∧ x1 < 400) ∧ (0 ≤ y2 ∧ y2 < 1024) ∧ ∀ S12 : Me, S12 = sI S (o + 3) (Int.toNat y2) (bOr (bAnd y3 (bXor (S.1 (o + 8) (Int.toNat x1)) (-1))) (bAnd (S.1 (o + 7) (Int.toNat x1)) (S.1 (o + 8) (Int.toNat x1)))) → B_X12_access_79 V o x1 S12 Q))
def B_X12_access_33 (V : Vt) (o : Nat) (x1 : Int) (y2 : Int) (y3 : Int) (S : Me) (Q : Me → Prop) : Prop := (0 ≤ x1 ∧ x1 < 400) ∧ ∀ S14 : Me, S14 = sI S (o + 11) (Int.toNat x1) y3 → B_X12_access_40 V o x1 y2 y3 S14 Q
def PT_X12_access (V : Vt) (o : Nat) (x1 : Int) (S : Me) (Q : Me → Prop) : Prop := (0 ≤ x1 ∧ x1 < 400) ∧ (0 ≤ (S.1 (o + 6) (Int.toNat x1)) ∧ (S.1 (o + 6) (Int.toNat x1)) < 1024) ∧ (0 ≤ x1 ∧ x1 < 400) ∧ (((S.1 (o + 4) (Int.toNat x1)) = 0 → B_X12_access_33 V o x1 (S.1 (o + 6) (Int.toNat x1)) (S.1 (o + 3) (Int.toNat (S.1 (o + 6) (Int.toNat x1)))) S Q) ∧ (¬ (S.1 (o + 4) (Int.toNat x1)) = 0 → (0 ≤ x1 ∧ x1 < 400) ∧ ((¬ (S.1 (o + 4) (Int.toNat x1)) = 3 → B_X12_access_40 V o x1 (S.1 (o + 6) (Int.toNat x1)) (S.1 (o + 3) (Int.toNat (S.1 (o + 6) (Int.toNat x1)))) S Q) ∧ ((S.1 (o + 4) (Int.toNat x1)) = 3 → B_X12_access_33 V o x1 (S.1 (o + 6) (Int.toNat x1)) (S.1 (o + 3) (Int.toNat (S.1 (o + 6) (Int.toNat x1)))) S Q))))
theorem hd_X12_access : yX12_access.cls ≠ "java/lang/invoke/MethodHandle" ∧ yX12_access.cls ≠ "java/lang/invoke/VarHandle" ∧ (parseMethodDescriptor yX12_access.desc).map (fun d => d.parameters.length) = some 1 := by decide +kernel
set_option maxHeartbeats 4000000 in
set_option maxRecDepth 100000 in
theorem c_X12_access (l : Launch) (D : va_G) (cy : ClassId × ClassId × ClassId × ClassId) (ad : Nat → Nat) {V : Vt} {S : Me} {o : Nat} {x1 : Int} (hV : fX12 V o) (rx1 : rng x1) {Q : Me → Prop} (h : PT_X12_access V o x1 S Q) : KM l D cy yX12_access cX12_access 4 (Option.none : Option Jvm.ClassFile.FieldType) 1 21 ad V S [.inr (some o), .inl x1] (qV Q) := by
  refine KM.of (by decide) rfl (Nat.le_of_ble_eq_true rfl) (own := RX12) (fun p e s m args below meth c A ls H locs eA C hret hml hmn hl G => ?_)
  have hl : lo ad ls [some (.inr (some o)), some (.inl x1), none, none] := hl
  have b79 : ∀ (S : Me) (H : Heap) (locs : List Loc) (ls : Array Slot), lo ad ls [some (.inr (some o)), some (.inl x1), none, none] → Gy D cy A s.heap ad V S H locs → B_X12_access_79 V o x1 S Q → W p l e (rmx 1 21) s m args below meth c H locs 0 0 (qm below D cy ad V A args s (qV Q)) (F0 m 79 ls []) := by
    intro S H locs ls hl G h
    unfold B_X12_access_79 at h
    refine gx_aload_n C hl dX12_access_79 rfl ?_
    refine gx_iload_n C hl dX12_access_80 rfl ?_
    refine gx_callV C G hl hml (c_X12_finish l D cy ad hV rx1 h) rfl (fX12_o hV) (by rw [(fX12_c hV)]; rfl) (by rw [(fX12_c hV)]; decide) rfl uw_1189 uw_1186 uw_1188 up_22 uw_9 hd_X12_finish ⟨Nat.le_of_ble_eq_true rfl, Nat.le_of_ble_eq_true rfl⟩ ⟨Nat.zero_le _, Nat.zero_le _⟩ rfl rfl (hw_le ad [] rfl (Nat.le_of_ble_eq_true rfl)) dX12_access_81 (kkV (fun S1 H locs h G => ?_))
    exact gx_vret C G hret h dX12_access_84
  have b40 : ∀ (y2 : Int) (y3 : Int) (S : Me) (H : Heap) (locs : List Loc) (ls : Array Slot), rng y2 → rng y3 → lo ad ls [some (.inr (some o)), some (.inl x1), some (.inl y2), some (.inl y3)] → Gy D cy A s.heap ad V S H locs → B_X12_access_40 V o x1 y2 y3 S Q → W p l e (rmx 1 21) s m args below meth c H locs 0 0 (qm below D cy ad V A args s (qV Q)) (F0 m 40 ls []) := by
    intro y2 y3 S H locs ls ry2 ry3 hl G h
    unfold B_X12_access_40 at h
    refine gx_aload_n C hl dX12_access_40 rfl ?_
    refine gx_getF C G rfl (fX12_o hV) (fo11_15 (fX12_c hV)) (fX12_kind hV) uw_970 (fun _ h9 => h9) dX12_access_41 ?_
    refine gx_iload_n C hl dX12_access_44 rfl ?_
    obtain ⟨h2, h⟩ := h
    refine gx_iald C G rfl (fX12_kind_l hV) (fX12_kind_t hV) rx1 h2.1 (ixl (fX12_kind_n hV) h2.2) dX12_access_45 ?_
    have r3 := G.r (o + 4) (Int.toNat x1)
    refine gx_if_eq (tgt := 79) C r3 dX12_access_46 (by decide) (fun c4 => ?_) (fun c4 => ?_)
    · have h := h.1 c4
      exact b79 S H locs ls (lo_mask (bs := [true, true, false, false]) hl rfl rfl) G h
    · have h := h.2 c4
      refine gx_aload_n C hl dX12_access_49 rfl ?_
      refine gx_getF C G rfl (fX12_o hV) (fo11_12 (fX12_c hV)) (fX12_memory hV) uw_967 (fun _ h9 => h9) dX12_access_50 ?_
      refine gx_iload_n C hl dX12_access_53 rfl ?_
      refine gx_iload_n C hl dX12_access_54 rfl ?_
      refine gx_aload_n C hl dX12_access_55 rfl ?_
      refine gx_getF C G rfl (fX12_o hV) (fo11_19 (fX12_c hV)) (fX12_bits hV) uw_974 (fun _ h9 => h9) dX12_access_56 ?_
      refine gx_iload_n C hl dX12_access_59 rfl ?_
      obtain ⟨h5, h⟩ := h
      refine gx_iald C G rfl (fX12_bits_l hV) (fX12_bits_t hV) rx1 h5.1 (ixl (fX12_bits_n hV) h5.2) dX12_access_60 ?_
      have r6 := G.r (o + 8) (Int.toNat x1)
      refine gx_iconst C dX12_access_61 ?_
      refine gx_ixor C dX12_access_62 ?_
      refine gx_iand C dX12_access_63 ?_
      refine gx_aload_n C hl dX12_access_64 rfl ?_
      refine gx_getF C G rfl (fX12_o hV) (fo11_18 (fX12_c hV)) (fX12_value hV) uw_973 (fun _ h9 => h9) dX12_access_65 ?_
      refine gx_iload_n C hl dX12_access_68 rfl ?_
      obtain ⟨h7, h⟩ := h
      refine gx_iald C G rfl (fX12_value_l hV) (fX12_value_t hV) rx1 h7.1 (ixl (fX12_value_n hV) h7.2) dX12_access_69 ?_
      have r8 := G.r (o + 7) (Int.toNat x1)
      refine gx_aload_n C hl dX12_access_70 rfl ?_
      refine gx_getF C G rfl (fX12_o hV) (fo11_19 (fX12_c hV)) (fX12_bits hV) uw_974 (fun _ h9 => h9) dX12_access_71 ?_
      refine gx_iload_n C hl dX12_access_74 rfl ?_
      obtain ⟨h9, h⟩ := h
      refine gx_iald C G rfl (fX12_bits_l hV) (fX12_bits_t hV) rx1 h9.1 (ixl (fX12_bits_n hV) h9.2) dX12_access_75 ?_
      have r10 := G.r (o + 8) (Int.toNat x1)
      refine gx_iand C dX12_access_76 ?_
      refine gx_ior C dX12_access_77 ?_
      obtain ⟨h11, h⟩ := h
      refine gx_iast C G rfl (fX12_memory_l hV) (fX12_memory_t hV) ry2 (rg_o _) h11.1 (ixl (fX12_memory_n hV) h11.2) dX12_access_78 (fun H locs G => ?_)
      obtain ⟨S12, eS12⟩ : ∃ q9 : Me, q9 = sI S (o + 3) (Int.toNat y2) (bOr (bAnd y3 (bXor (S.1 (o + 8) (Int.toNat x1)) (-1))) (bAnd (S.1 (o + 7) (Int.toNat x1)) (S.1 (o + 8) (Int.toNat x1)))) := ⟨_, rfl⟩
      have h := h S12 eS12
      rw [← eS12] at G
      exact b79 S12 H locs ls (lo_mask (bs := [true, true, false, false]) hl rfl rfl) G h
  have b33 : ∀ (y2 : Int) (y3 : Int) (S : Me) (H : Heap) (locs : List Loc) (ls : Array Slot), rng y2 → rng y3 → lo ad ls [some (.inr (some o)), some (.inl x1), some (.inl y2), some (.inl y3)] → Gy D cy A s.heap ad V S H locs → B_X12_access_33 V o x1 y2 y3 S Q → W p l e (rmx 1 21) s m args below meth c H locs 0 0 (qm below D cy ad V A args s (qV Q)) (F0 m 33 ls []) := by
    intro y2 y3 S H locs ls ry2 ry3 hl G h
    unfold B_X12_access_33 at h
    refine gx_aload_n C hl dX12_access_33 rfl ?_
    refine gx_getF C G rfl (fX12_o hV) (fo11_22 (fX12_c hV)) (fX12_answer hV) uw_977 (fun _ h9 => h9) dX12_access_34 ?_
    refine gx_iload_n C hl dX12_access_37 rfl ?_
    refine gx_iload_n C hl dX12_access_38 rfl ?_
    obtain ⟨h13, h⟩ := h
    refine gx_iast C G rfl (fX12_answer_l hV) (fX12_answer_t hV) rx1 ry3 h13.1 (ixl (fX12_answer_n hV) h13.2) dX12_access_39 (fun H locs G => ?_)
    obtain ⟨S14, eS14⟩ : ∃ q9 : Me, q9 = sI S (o + 11) (Int.toNat x1) y3 := ⟨_, rfl⟩
    have h := h S14 eS14
    rw [← eS14] at G
    exact b40 y2 y3 S14 H locs ls ry2 ry3 hl G h
  clear eA
  unfold PT_X12_access at h
  refine gx_aload_n C hl dX12_access_0 rfl ?_
  refine gx_getF C G rfl (fX12_o hV) (fo11_17 (fX12_c hV)) (fX12_address hV) uw_972 (fun _ h9 => h9) dX12_access_1 ?_
  refine gx_iload_n C hl dX12_access_4 rfl ?_
  obtain ⟨h15, h⟩ := h
  refine gx_iald C G rfl (fX12_address_l hV) (fX12_address_t hV) rx1 h15.1 (ixl (fX12_address_n hV) h15.2) dX12_access_5 ?_
  have r16 := G.r (o + 6) (Int.toNat x1)
  refine gx_istore_n C hl dX12_access_6 (Nat.le_of_ble_eq_true rfl) (PL' := [some (.inr (some o)), some (.inl x1), some (.inl (S.1 (o + 6) (Int.toNat x1))), none]) rfl (fun ls hl => ?_)
  refine gx_aload_n C hl dX12_access_7 rfl ?_
  refine gx_getF C G rfl (fX12_o hV) (fo11_12 (fX12_c hV)) (fX12_memory hV) uw_967 (fun _ h9 => h9) dX12_access_8 ?_
  refine gx_iload_n C hl dX12_access_11 rfl ?_
  obtain ⟨h17, h⟩ := h
  refine gx_iald C G rfl (fX12_memory_l hV) (fX12_memory_t hV) r16 h17.1 (ixl (fX12_memory_n hV) h17.2) dX12_access_12 ?_
  have r18 := G.r (o + 3) (Int.toNat (S.1 (o + 6) (Int.toNat x1)))
  refine gx_istore_n C hl dX12_access_13 (Nat.le_of_ble_eq_true rfl) (PL' := [some (.inr (some o)), some (.inl x1), some (.inl (S.1 (o + 6) (Int.toNat x1))), some (.inl (S.1 (o + 3) (Int.toNat (S.1 (o + 6) (Int.toNat x1)))))]) rfl (fun ls hl => ?_)
  refine gx_aload_n C hl dX12_access_14 rfl ?_
  refine gx_getF C G rfl (fX12_o hV) (fo11_15 (fX12_c hV)) (fX12_kind hV) uw_970 (fun _ h9 => h9) dX12_access_15 ?_
  refine gx_iload_n C hl dX12_access_18 rfl ?_
  obtain ⟨h19, h⟩ := h
  refine gx_iald C G rfl (fX12_kind_l hV) (fX12_kind_t hV) rx1 h19.1 (ixl (fX12_kind_n hV) h19.2) dX12_access_19 ?_
  have r20 := G.r (o + 4) (Int.toNat x1)
  refine gx_if_eq (tgt := 33) C r20 dX12_access_20 (by decide) (fun c21 => ?_) (fun c21 => ?_)
  · have h := h.1 c21
    exact b33 (S.1 (o + 6) (Int.toNat x1)) (S.1 (o + 3) (Int.toNat (S.1 (o + 6) (Int.toNat x1)))) S H locs ls r16 r18 hl G h
  · have h := h.2 c21
    refine gx_aload_n C hl dX12_access_23 rfl ?_
    refine gx_getF C G rfl (fX12_o hV) (fo11_15 (fX12_c hV)) (fX12_kind hV) uw_970 (fun _ h9 => h9) dX12_access_24 ?_
    refine gx_iload_n C hl dX12_access_27 rfl ?_
    obtain ⟨h22, h⟩ := h
    refine gx_iald C G rfl (fX12_kind_l hV) (fX12_kind_t hV) rx1 h22.1 (ixl (fX12_kind_n hV) h22.2) dX12_access_28 ?_
    have r23 := G.r (o + 4) (Int.toNat x1)
    refine gx_iconst C dX12_access_29 ?_
    refine gx_icmp_ne (tgt := 40) C r23 (show rng 3 by decide) dX12_access_30 (by decide) (fun c24 => ?_) (fun c24 => ?_)
    · have h := h.1 c24
      exact b40 (S.1 (o + 6) (Int.toNat x1)) (S.1 (o + 3) (Int.toNat (S.1 (o + 6) (Int.toNat x1)))) S H locs ls r16 r18 hl G h
    · have h := h.2 c24
      exact b33 (S.1 (o + 6) (Int.toNat x1)) (S.1 (o + 3) (Int.toNat (S.1 (o + 6) (Int.toNat x1)))) S H locs ls r16 r18 hl G h
def B_X12_write__149 (V : Vt) (o : Nat) (S : Me) (Q : Me → Prop) : Prop := (0 ≤ (Int.tmod (S.1 o 26) 40) ∧ (Int.tmod (S.1 o 26) 40) < 40) ∧ ∀ S4 : Me, S4 = sI S (o + 13) (Int.toNat (Int.tmod (S.1 o 26) 40)) (S.1 o 6) → (0 ≤ (Int.tmod (S.1 o 26) 40) ∧ (Int.tmod (S.1 o 26) 40) < 40) ∧ ∀ S7 : Me, S7 = sI S4 (o + 14) (Int.toNat (Int.tmod (S.1 o 26) 40)) (S4.1 o 40) → (0 ≤ (Int.tmod (S.1 o 26) 40) ∧ (Int.tmod (S.1 o 26) 40) < 40) ∧ ∀ S10 : Me, S10 = sI S7 (o + 15) (Int.toNat (Int.tmod (S.1 o 26) 40)) (S7.1 o 41) → (rng ((S10.1 o 26) + 1)) ∧ ∀ S13 : Me, S13 = sI S10 o 26 ((S10.1 o 26) + 1) → (rng ((S13.1 o 9) + 1)) ∧ ∀ S16 : Me, S16 = sI S13 o 9 ((S13.1 o 9) + 1) → Q S16
def B_X12_write__138 (V : Vt) (o : Nat) (w0 : Option Nat) (w1 : Int) (w2 : Int) (S : Me) (Q : Me → Prop) : Prop := ∃ z17 : Nat, w0 = some z17 ∧ V.2.1 z17 = 12 ∧ (0 ≤ w1 ∧ w1 < (V.2.2.1 z17 : Int)) ∧ ∀ S19 : Me, S19 = sI S z17 (Int.toNat w1) w2 → (rng ((S19.1 o 30) + 1)) ∧ ∀ S22 : Me, S22 = sI S19 o 30 ((S19.1 o 30) + 1) → B_X12_write__149 V o S22 Q
def B_X12_write__121 (V : Vt) (o : Nat) (w0 : Option Nat) (w1 : Int) (S : Me) (Q : Me → Prop) : Prop := (0 ≤ (S.1 o 42) ∧ (S.1 o 42) < 400) ∧ B_X12_write__138 V o w0 w1 (Int.tmod (S.1 (o + 6) (Int.toNat (S.1 o 42))) 16) S Q
def PT_X12_write_ (V : Vt) (o : Nat) (S : Me) (Q : Me → Prop) : Prop := ((400 ≤ (S.1 o 30) → B_X12_write__149 V o S Q) ∧ (¬ 400 ≤ (S.1 o 30) → (0 ≤ (S.1 o 30) ∧ (S.1 o 30) < 400) ∧ ∀ S31 : Me, S31 = sI S (o + 16) (Int.toNat (S.1 o 30)) (S.1 o 6) → (0 ≤ (S31.1 o 30) ∧ (S31.1 o 30) < 400) ∧ ∀ S35 : Me, S35 = sI S31 (o + 17) (Int.toNat (S31.1 o 30)) (S31.1 o 6) → (0 ≤ (S35.1 o 30) ∧ (S35.1 o 30) < 400) ∧ ∀ S39 : Me, S39 = sI S35 (o + 18) (Int.toNat (S35.1 o 30)) (S35.1 o 40) → (0 ≤ (S39.1 o 30) ∧ (S39.1 o 30) < 400) ∧ ∀ S43 : Me, S43 = sI S39 (o + 19) (Int.toNat (S39.1 o 30)) (S39.1 o 41) → (0 ≤ (S43.1 o 30) ∧ (S43.1 o 30) < 400) ∧ ∀ S47 : Me, S47 = sI S43 (o + 21) (Int.toNat (S43.1 o 30)) (S43.1 o 42) → ((¬ (S47.1 o 40) = 0 → (((S47.1 o 40) = 2 → B_X12_write__121 V o (some (o + 20)) (S47.1 o 30) S47 Q) ∧ (¬ (S47.1 o 40) = 2 → ((¬ (S47.1 o 40) = 3 → B_X12_write__138 V o (some (o + 20)) (S47.1 o 30) (-2) S47 Q) ∧ ((S47.1 o 40) = 3 → B_X12_write__121 V o (some (o + 20)) (S47.1 o 30) S47 Q))))) ∧ ((S47.1 o 40) = 0 → (0 ≤ (S47.1 o 42) ∧ (S47.1 o 42) < 400) ∧ PT_X12_rowOf V (S47.1 (o + 6) (Int.toNat (S47.1 o 42))) S47 (fun t59 S58 => B_X12_write__138 V o (some (o + 20)) (S47.1 o 30) t59 S58 Q)))))
theorem hd_X12_write_ : yX12_write_.cls ≠ "java/lang/invoke/MethodHandle" ∧ yX12_write_.cls ≠ "java/lang/invoke/VarHandle" ∧ (parseMethodDescriptor yX12_write_.desc).map (fun d => d.parameters.length) = some 0 := by decide +kernel
set_option maxHeartbeats 4000000 in
set_option maxRecDepth 100000 in
theorem c_X12_write_ (l : Launch) (D : va_G) (cy : ClassId × ClassId × ClassId × ClassId) (ad : Nat → Nat) {V : Vt} {S : Me} {o : Nat} (hV : fX12 V o) {Q : Me → Prop} (h : PT_X12_write_ V o S Q) : KM l D cy yX12_write_ cX12_write_ 2 (Option.none : Option Jvm.ClassFile.FieldType) 1 20 ad V S [.inr (some o)] (qV Q) := by
  refine KM.of (by decide) rfl (Nat.le_of_ble_eq_true rfl) (own := RX12) (fun p e s m args below meth c A ls H locs eA C hret hml hmn hl G => ?_)
  have hl : lo ad ls [some (.inr (some o)), none] := hl
  have b149 : ∀ (S : Me) (H : Heap) (locs : List Loc) (ls : Array Slot), lo ad ls [some (.inr (some o)), none] → Gy D cy A s.heap ad V S H locs → B_X12_write__149 V o S Q → W p l e (rmx 1 20) s m args below meth c H locs 0 0 (qm below D cy ad V A args s (qV Q)) (F0 m 149 ls []) := by
    intro S H locs ls hl G h
    unfold B_X12_write__149 at h
    refine gx_aload_n C hl dX12_write__149 rfl ?_
    refine gx_getI C G rfl (fX12_o hV) (fo11_26 (fX12_c hV)) uw_981 (fun _ h9 => h9) dX12_write__150 ?_
    have r1 := G.r o 26
    refine gx_bipush C dX12_write__153 (by decide) ?_
    refine gx_irem C r1 (show rng 40 by decide) (by decide) dX12_write__155 ?_
    refine gx_istore_n C hl dX12_write__156 (Nat.le_of_ble_eq_true rfl) (PL' := [some (.inr (some o)), some (.inl (Int.tmod (S.1 o 26) 40))]) rfl (fun ls hl => ?_)
    refine gx_aload_n C hl dX12_write__157 rfl ?_
    refine gx_getF C G rfl (fX12_o hV) (fo11_27 (fX12_c hV)) (fX12_recentTick hV) uw_982 (fun _ h9 => h9) dX12_write__158 ?_
    refine gx_iload_n C hl dX12_write__161 rfl ?_
    refine gx_aload_n C hl dX12_write__162 rfl ?_
    refine gx_getI C G rfl (fX12_o hV) (fo11_6 (fX12_c hV)) uw_961 (fun _ h9 => h9) dX12_write__163 ?_
    have r2 := G.r o 6
    obtain ⟨h3, h⟩ := h
    refine gx_iast C G rfl (fX12_recentTick_l hV) (fX12_recentTick_t hV) (rg_md r1) r2 h3.1 (ixl (fX12_recentTick_n hV) h3.2) dX12_write__166 (fun H locs G => ?_)
    obtain ⟨S4, eS4⟩ : ∃ q9 : Me, q9 = sI S (o + 13) (Int.toNat (Int.tmod (S.1 o 26) 40)) (S.1 o 6) := ⟨_, rfl⟩
    have h := h S4 eS4
    rw [← eS4] at G
    refine gx_aload_n C hl dX12_write__167 rfl ?_
    refine gx_getF C G rfl (fX12_o hV) (fo11_28 (fX12_c hV)) (fX12_recentWhat hV) uw_983 (fun _ h9 => h9) dX12_write__168 ?_
    refine gx_iload_n C hl dX12_write__171 rfl ?_
    refine gx_aload_n C hl dX12_write__172 rfl ?_
    refine gx_getI C G rfl (fX12_o hV) (fo11_40 (fX12_c hV)) uw_995 (fun _ h9 => h9) dX12_write__173 ?_
    have r5 := G.r o 40
    obtain ⟨h6, h⟩ := h
    refine gx_iast C G rfl (fX12_recentWhat_l hV) (fX12_recentWhat_t hV) (rg_md r1) r5 h6.1 (ixl (fX12_recentWhat_n hV) h6.2) dX12_write__176 (fun H locs G => ?_)
    obtain ⟨S7, eS7⟩ : ∃ q9 : Me, q9 = sI S4 (o + 14) (Int.toNat (Int.tmod (S.1 o 26) 40)) (S4.1 o 40) := ⟨_, rfl⟩
    have h := h S7 eS7
    rw [← eS7] at G
    refine gx_aload_n C hl dX12_write__177 rfl ?_
    refine gx_getF C G rfl (fX12_o hV) (fo11_29 (fX12_c hV)) (fX12_recentBank hV) uw_984 (fun _ h9 => h9) dX12_write__178 ?_
    refine gx_iload_n C hl dX12_write__181 rfl ?_
    refine gx_aload_n C hl dX12_write__182 rfl ?_
    refine gx_getI C G rfl (fX12_o hV) (fo11_41 (fX12_c hV)) uw_996 (fun _ h9 => h9) dX12_write__183 ?_
    have r8 := G.r o 41
    obtain ⟨h9, h⟩ := h
    refine gx_iast C G rfl (fX12_recentBank_l hV) (fX12_recentBank_t hV) (rg_md r1) r8 h9.1 (ixl (fX12_recentBank_n hV) h9.2) dX12_write__186 (fun H locs G => ?_)
    obtain ⟨S10, eS10⟩ : ∃ q9 : Me, q9 = sI S7 (o + 15) (Int.toNat (Int.tmod (S.1 o 26) 40)) (S7.1 o 41) := ⟨_, rfl⟩
    have h := h S10 eS10
    rw [← eS10] at G
    refine gx_aload_n C hl dX12_write__187 rfl ?_
    refine gx_dupR C dX12_write__188 ?_
    refine gx_getI C G rfl (fX12_o hV) (fo11_26 (fX12_c hV)) uw_981 (fun _ h9 => h9) dX12_write__189 ?_
    have r11 := G.r o 26
    refine gx_iconst C dX12_write__192 ?_
    obtain ⟨h12, h⟩ := h
    refine gx_iadd C dX12_write__193 ?_
    refine gx_putI C G rfl (fX12_o hV) (fo11_26 (fX12_c hV)) h12 uw_981 (fun _ h9 => h9) dX12_write__194 (fun H locs G => ?_)
    obtain ⟨S13, eS13⟩ : ∃ q9 : Me, q9 = sI S10 o 26 ((S10.1 o 26) + 1) := ⟨_, rfl⟩
    have h := h S13 eS13
    rw [← eS13] at G
    refine gx_aload_n C hl dX12_write__197 rfl ?_
    refine gx_dupR C dX12_write__198 ?_
    refine gx_getI C G rfl (fX12_o hV) (fo11_9 (fX12_c hV)) uw_964 (fun _ h9 => h9) dX12_write__199 ?_
    have r14 := G.r o 9
    refine gx_iconst C dX12_write__202 ?_
    obtain ⟨h15, h⟩ := h
    refine gx_iadd C dX12_write__203 ?_
    refine gx_putI C G rfl (fX12_o hV) (fo11_9 (fX12_c hV)) h15 uw_964 (fun _ h9 => h9) dX12_write__204 (fun H locs G => ?_)
    obtain ⟨S16, eS16⟩ : ∃ q9 : Me, q9 = sI S13 o 9 ((S13.1 o 9) + 1) := ⟨_, rfl⟩
    have h := h S16 eS16
    rw [← eS16] at G
    exact gx_vret C G hret h dX12_write__207
  have b138 : ∀ (w0 : Option Nat) (w1 : Int) (w2 : Int) (S : Me) (H : Heap) (locs : List Loc) (ls : Array Slot), (∀ z, w0 = some z → z < V.1) → rng w1 → rng w2 → lo ad ls [some (.inr (some o)), none] → Gy D cy A s.heap ad V S H locs → B_X12_write__138 V o w0 w1 w2 S Q → W p l e (rmx 1 20) s m args below meth c H locs 0 0 (qm below D cy ad V A args s (qV Q)) (F0 m 138 ls [vI w2, vI w1, vR ad w0]) := by
    intro w0 w1 w2 S H locs ls vw0 rw1 rw2 hl G h
    unfold B_X12_write__138 at h
    obtain ⟨z17, hz17, tz17, h⟩ := h
    have lz17 := (vw0 z17 hz17)
    obtain ⟨h18, h⟩ := h
    refine gx_iast C G hz17 lz17 tz17 rw1 rw2 h18.1 h18.2 dX12_write__138 (fun H locs G => ?_)
    obtain ⟨S19, eS19⟩ : ∃ q9 : Me, q9 = sI S z17 (Int.toNat w1) w2 := ⟨_, rfl⟩
    have h := h S19 eS19
    rw [← eS19] at G
    refine gx_aload_n C hl dX12_write__139 rfl ?_
    refine gx_dupR C dX12_write__140 ?_
    refine gx_getI C G rfl (fX12_o hV) (fo11_30 (fX12_c hV)) uw_985 (fun _ h9 => h9) dX12_write__141 ?_
    have r20 := G.r o 30
    refine gx_iconst C dX12_write__144 ?_
    obtain ⟨h21, h⟩ := h
    refine gx_iadd C dX12_write__145 ?_
    refine gx_putI C G rfl (fX12_o hV) (fo11_30 (fX12_c hV)) h21 uw_985 (fun _ h9 => h9) dX12_write__146 (fun H locs G => ?_)
    obtain ⟨S22, eS22⟩ : ∃ q9 : Me, q9 = sI S19 o 30 ((S19.1 o 30) + 1) := ⟨_, rfl⟩
    have h := h S22 eS22
    rw [← eS22] at G
    exact b149 S22 H locs ls hl G h
  have b121 : ∀ (w0 : Option Nat) (w1 : Int) (S : Me) (H : Heap) (locs : List Loc) (ls : Array Slot), (∀ z, w0 = some z → z < V.1) → rng w1 → lo ad ls [some (.inr (some o)), none] → Gy D cy A s.heap ad V S H locs → B_X12_write__121 V o w0 w1 S Q → W p l e (rmx 1 20) s m args below meth c H locs 0 0 (qm below D cy ad V A args s (qV Q)) (F0 m 121 ls [vI w1, vR ad w0]) := by
    intro w0 w1 S H locs ls vw0 rw1 hl G h
    unfold B_X12_write__121 at h
    refine gx_aload_n C hl dX12_write__121 rfl ?_
    refine gx_getF C G rfl (fX12_o hV) (fo11_17 (fX12_c hV)) (fX12_address hV) uw_972 (fun _ h9 => h9) dX12_write__122 ?_
    refine gx_aload_n C hl dX12_write__125 rfl ?_
    refine gx_getI C G rfl (fX12_o hV) (fo11_42 (fX12_c hV)) uw_997 (fun _ h9 => h9) dX12_write__126 ?_
    have r23 := G.r o 42
    obtain ⟨h24, h⟩ := h
    refine gx_iald C G rfl (fX12_address_l hV) (fX12_address_t hV) r23 h24.1 (ixl (fX12_address_n hV) h24.2) dX12_write__129 ?_
    have r25 := G.r (o + 6) (Int.toNat (S.1 o 42))
    refine gx_bipush C dX12_write__130 (by decide) ?_
    refine gx_irem C r25 (show rng 16 by decide) (by decide) dX12_write__132 ?_
    refine gx_goto (tgt := 138) C dX12_write__133 (by decide) ?_
    exact b138 w0 w1 (Int.tmod (S.1 (o + 6) (Int.toNat (S.1 o 42))) 16) S H locs ls vw0 rw1 (rg_md r25) hl G h
  clear eA
  unfold PT_X12_write_ at h
  refine gx_aload_n C hl dX12_write__0 rfl ?_
  refine gx_getI C G rfl (fX12_o hV) (fo11_30 (fX12_c hV)) uw_985 (fun _ h9 => h9) dX12_write__1 ?_
  have r26 := G.r o 30
  refine gx_sipush C dX12_write__4 (by decide) ?_
  refine gx_icmp_ge (tgt := 149) C r26 (show rng 400 by decide) dX12_write__7 (by decide) (fun c27 => ?_) (fun c27 => ?_)
  · have h := h.1 c27
    exact b149 S H locs ls hl G h
  · have h := h.2 c27
    refine gx_aload_n C hl dX12_write__10 rfl ?_
    refine gx_getF C G rfl (fX12_o hV) (fo11_31 (fX12_c hV)) (fX12_logTick hV) uw_986 (fun _ h9 => h9) dX12_write__11 ?_
    refine gx_aload_n C hl dX12_write__14 rfl ?_
    refine gx_getI C G rfl (fX12_o hV) (fo11_30 (fX12_c hV)) uw_985 (fun _ h9 => h9) dX12_write__15 ?_
    have r28 := G.r o 30
    refine gx_aload_n C hl dX12_write__18 rfl ?_
    refine gx_getI C G rfl (fX12_o hV) (fo11_6 (fX12_c hV)) uw_961 (fun _ h9 => h9) dX12_write__19 ?_
    have r29 := G.r o 6
    obtain ⟨h30, h⟩ := h
    refine gx_iast C G rfl (fX12_logTick_l hV) (fX12_logTick_t hV) r28 r29 h30.1 (ixl (fX12_logTick_n hV) h30.2) dX12_write__22 (fun H locs G => ?_)
    obtain ⟨S31, eS31⟩ : ∃ q9 : Me, q9 = sI S (o + 16) (Int.toNat (S.1 o 30)) (S.1 o 6) := ⟨_, rfl⟩
    have h := h S31 eS31
    rw [← eS31] at G
    refine gx_aload_n C hl dX12_write__23 rfl ?_
    refine gx_getF C G rfl (fX12_o hV) (fo11_32 (fX12_c hV)) (fX12_logForged hV) uw_987 (fun _ h9 => h9) dX12_write__24 ?_
    refine gx_aload_n C hl dX12_write__27 rfl ?_
    refine gx_getI C G rfl (fX12_o hV) (fo11_30 (fX12_c hV)) uw_985 (fun _ h9 => h9) dX12_write__28 ?_
    have r32 := G.r o 30
    refine gx_aload_n C hl dX12_write__31 rfl ?_
    refine gx_getI C G rfl (fX12_o hV) (fo11_6 (fX12_c hV)) uw_961 (fun _ h9 => h9) dX12_write__32 ?_
    have r33 := G.r o 6
    obtain ⟨h34, h⟩ := h
    refine gx_iast C G rfl (fX12_logForged_l hV) (fX12_logForged_t hV) r32 r33 h34.1 (ixl (fX12_logForged_n hV) h34.2) dX12_write__35 (fun H locs G => ?_)
    obtain ⟨S35, eS35⟩ : ∃ q9 : Me, q9 = sI S31 (o + 17) (Int.toNat (S31.1 o 30)) (S31.1 o 6) := ⟨_, rfl⟩
    have h := h S35 eS35
    rw [← eS35] at G
    refine gx_aload_n C hl dX12_write__36 rfl ?_
    refine gx_getF C G rfl (fX12_o hV) (fo11_33 (fX12_c hV)) (fX12_logWhat hV) uw_988 (fun _ h9 => h9) dX12_write__37 ?_
    refine gx_aload_n C hl dX12_write__40 rfl ?_
    refine gx_getI C G rfl (fX12_o hV) (fo11_30 (fX12_c hV)) uw_985 (fun _ h9 => h9) dX12_write__41 ?_
    have r36 := G.r o 30
    refine gx_aload_n C hl dX12_write__44 rfl ?_
    refine gx_getI C G rfl (fX12_o hV) (fo11_40 (fX12_c hV)) uw_995 (fun _ h9 => h9) dX12_write__45 ?_
    have r37 := G.r o 40
    obtain ⟨h38, h⟩ := h
    refine gx_iast C G rfl (fX12_logWhat_l hV) (fX12_logWhat_t hV) r36 r37 h38.1 (ixl (fX12_logWhat_n hV) h38.2) dX12_write__48 (fun H locs G => ?_)
    obtain ⟨S39, eS39⟩ : ∃ q9 : Me, q9 = sI S35 (o + 18) (Int.toNat (S35.1 o 30)) (S35.1 o 40) := ⟨_, rfl⟩
    have h := h S39 eS39
    rw [← eS39] at G
    refine gx_aload_n C hl dX12_write__49 rfl ?_
    refine gx_getF C G rfl (fX12_o hV) (fo11_34 (fX12_c hV)) (fX12_logBank hV) uw_989 (fun _ h9 => h9) dX12_write__50 ?_
    refine gx_aload_n C hl dX12_write__53 rfl ?_
    refine gx_getI C G rfl (fX12_o hV) (fo11_30 (fX12_c hV)) uw_985 (fun _ h9 => h9) dX12_write__54 ?_
    have r40 := G.r o 30
    refine gx_aload_n C hl dX12_write__57 rfl ?_
    refine gx_getI C G rfl (fX12_o hV) (fo11_41 (fX12_c hV)) uw_996 (fun _ h9 => h9) dX12_write__58 ?_
    have r41 := G.r o 41
    obtain ⟨h42, h⟩ := h
    refine gx_iast C G rfl (fX12_logBank_l hV) (fX12_logBank_t hV) r40 r41 h42.1 (ixl (fX12_logBank_n hV) h42.2) dX12_write__61 (fun H locs G => ?_)
    obtain ⟨S43, eS43⟩ : ∃ q9 : Me, q9 = sI S39 (o + 19) (Int.toNat (S39.1 o 30)) (S39.1 o 41) := ⟨_, rfl⟩
    have h := h S43 eS43
    rw [← eS43] at G
    refine gx_aload_n C hl dX12_write__62 rfl ?_
    refine gx_getF C G rfl (fX12_o hV) (fo11_36 (fX12_c hV)) (fX12_logAsk hV) uw_991 (fun _ h9 => h9) dX12_write__63 ?_
    refine gx_aload_n C hl dX12_write__66 rfl ?_
    refine gx_getI C G rfl (fX12_o hV) (fo11_30 (fX12_c hV)) uw_985 (fun _ h9 => h9) dX12_write__67 ?_
    have r44 := G.r o 30
    refine gx_aload_n C hl dX12_write__70 rfl ?_
    refine gx_getI C G rfl (fX12_o hV) (fo11_42 (fX12_c hV)) uw_997 (fun _ h9 => h9) dX12_write__71 ?_
    have r45 := G.r o 42
    obtain ⟨h46, h⟩ := h
    refine gx_iast C G rfl (fX12_logAsk_l hV) (fX12_logAsk_t hV) r44 r45 h46.1 (ixl (fX12_logAsk_n hV) h46.2) dX12_write__74 (fun H locs G => ?_)
    obtain ⟨S47, eS47⟩ : ∃ q9 : Me, q9 = sI S43 (o + 21) (Int.toNat (S43.1 o 30)) (S43.1 o 42) := ⟨_, rfl⟩
    have h := h S47 eS47
    rw [← eS47] at G
    refine gx_aload_n C hl dX12_write__75 rfl ?_
    refine gx_getF C G rfl (fX12_o hV) (fo11_35 (fX12_c hV)) (fX12_logPlace hV) uw_990 (fun _ h9 => h9) dX12_write__76 ?_
    refine gx_aload_n C hl dX12_write__79 rfl ?_
    refine gx_getI C G rfl (fX12_o hV) (fo11_30 (fX12_c hV)) uw_985 (fun _ h9 => h9) dX12_write__80 ?_
    have r48 := G.r o 30
    refine gx_aload_n C hl dX12_write__83 rfl ?_
    refine gx_getI C G rfl (fX12_o hV) (fo11_40 (fX12_c hV)) uw_995 (fun _ h9 => h9) dX12_write__84 ?_
    have r49 := G.r o 40
    refine gx_if_ne (tgt := 105) C r49 dX12_write__87 (by decide) (fun c50 => ?_) (fun c50 => ?_)
    · have h := h.1 c50
      refine gx_aload_n C hl dX12_write__105 rfl ?_
      refine gx_getI C G rfl (fX12_o hV) (fo11_40 (fX12_c hV)) uw_995 (fun _ h9 => h9) dX12_write__106 ?_
      have r51 := G.r o 40
      refine gx_iconst C dX12_write__109 ?_
      refine gx_icmp_eq (tgt := 121) C r51 (show rng 2 by decide) dX12_write__110 (by decide) (fun c52 => ?_) (fun c52 => ?_)
      · have h := h.1 c52
        exact b121 (some (o + 20)) (S47.1 o 30) S47 H locs ls (vsome (fX12_logPlace_l hV)) r48 hl G h
      · have h := h.2 c52
        refine gx_aload_n C hl dX12_write__113 rfl ?_
        refine gx_getI C G rfl (fX12_o hV) (fo11_40 (fX12_c hV)) uw_995 (fun _ h9 => h9) dX12_write__114 ?_
        have r53 := G.r o 40
        refine gx_iconst C dX12_write__117 ?_
        refine gx_icmp_ne (tgt := 136) C r53 (show rng 3 by decide) dX12_write__118 (by decide) (fun c54 => ?_) (fun c54 => ?_)
        · have h := h.1 c54
          refine gx_bipush C dX12_write__136 (by decide) ?_
          exact b138 (some (o + 20)) (S47.1 o 30) (-2) S47 H locs ls (vsome (fX12_logPlace_l hV)) r48 (show rng (-2) by decide) hl G h
        · have h := h.2 c54
          exact b121 (some (o + 20)) (S47.1 o 30) S47 H locs ls (vsome (fX12_logPlace_l hV)) r48 hl G h
    · have h := h.2 c50
      refine gx_aload_n C hl dX12_write__90 rfl ?_
      refine gx_getF C G rfl (fX12_o hV) (fo11_17 (fX12_c hV)) (fX12_address hV) uw_972 (fun _ h9 => h9) dX12_write__91 ?_
      refine gx_aload_n C hl dX12_write__94 rfl ?_
      refine gx_getI C G rfl (fX12_o hV) (fo11_42 (fX12_c hV)) uw_997 (fun _ h9 => h9) dX12_write__95 ?_
      have r55 := G.r o 42
      obtain ⟨h56, h⟩ := h
      refine gx_iald C G rfl (fX12_address_l hV) (fX12_address_t hV) r55 h56.1 (ixl (fX12_address_n hV) h56.2) dX12_write__98 ?_
      have r57 := G.r (o + 6) (Int.toNat (S47.1 o 42))
      refine gx_callS C G hl hml (c_X12_rowOf l D cy ad r57 h) uw_1239 uw_1237 uw_1238 uw_9 hd_X12_rowOf ⟨Nat.le_of_ble_eq_true rfl, Nat.le_of_ble_eq_true rfl⟩ ⟨Nat.zero_le _, Nat.zero_le _⟩ rfl rfl (hw_le ad [.inl (S47.1 o 30), .inr (some (o + 20))] rfl (Nat.le_of_ble_eq_true rfl)) dX12_write__99 (kkI (fun t59 S58 H locs rt59 h G => ?_))
      refine gx_goto (tgt := 138) C dX12_write__102 (by decide) ?_
      exact b138 (some (o + 20)) (S47.1 o 30) t59 S58 H locs ls (vsome (fX12_logPlace_l hV)) r48 rt59 hl G h
def PT_X12_go (V : Vt) (o : Nat) (S : Me) (Q : Me → Prop) : Prop := PT_X12_write_ V o S (fun S1 => ((¬ (S1.1 o 40) = 4 → ((¬ (S1.1 o 40) = 0 → ((¬ (S1.1 o 40) = 1 → (rng ((S1.1 o 25) + 1)) ∧ ∀ S10 : Me, S10 = sI S1 o 25 ((S1.1 o 25) + 1) → PT_X12_access V o (S10.1 o 42) S10 (fun S12 => PT_X12_findOldest V o S12 (fun S13 => Q S13))) ∧ ((S1.1 o 40) = 1 → (0 ≤ (S1.1 o 41) ∧ (S1.1 o 41) < 4) ∧ ∀ S16 : Me, S16 = sI S1 (o + 2) (Int.toNat (S1.1 o 41)) (-2) → Q S16))) ∧ ((S1.1 o 40) = 0 → (0 ≤ (S1.1 o 42) ∧ (S1.1 o 42) < 400) ∧ PT_X12_rowOf V (S1.1 (o + 6) (Int.toNat (S1.1 o 42))) S1 (fun t22 S21 => (0 ≤ (S1.1 o 41) ∧ (S1.1 o 41) < 4) ∧ ∀ S24 : Me, S24 = sI S21 (o + 2) (Int.toNat (S1.1 o 41)) t22 → (rng ((S24.1 o 10) + 1)) ∧ ∀ S27 : Me, S27 = sI S24 o 10 ((S24.1 o 10) + 1) → Q S27)))) ∧ ((S1.1 o 40) = 4 → (rng ((S1.1 o 7) - 1)) ∧ ∀ S30 : Me, S30 = sI S1 o 7 ((S1.1 o 7) - 1) → (rng ((S30.1 o 8) + 1)) ∧ ∀ S33 : Me, S33 = sI S30 o 8 ((S30.1 o 8) + 1) → Q S33)))
theorem hd_X12_go : yX12_go.cls ≠ "java/lang/invoke/MethodHandle" ∧ yX12_go.cls ≠ "java/lang/invoke/VarHandle" ∧ (parseMethodDescriptor yX12_go.desc).map (fun d => d.parameters.length) = some 0 := by decide +kernel
set_option maxHeartbeats 4000000 in
set_option maxRecDepth 100000 in
theorem c_X12_go (l : Launch) (D : va_G) (cy : ClassId × ClassId × ClassId × ClassId) (ad : Nat → Nat) {V : Vt} {S : Me} {o : Nat} (hV : fX12 V o) {Q : Me → Prop} (h : PT_X12_go V o S Q) : KM l D cy yX12_go cX12_go 1 (Option.none : Option Jvm.ClassFile.FieldType) 2 44 ad V S [.inr (some o)] (qV Q) := by
  refine KM.of (by decide) rfl (Nat.le_of_ble_eq_true rfl) (own := RX12) (fun p e s m args below meth c A ls H locs eA C hret hml hmn hl G => ?_)
  have hl : lo ad ls [some (.inr (some o))] := hl
  clear eA
  unfold PT_X12_go at h
  refine gx_aload_n C hl dX12_go_0 rfl ?_
  refine gx_callV C G hl hml (c_X12_write_ l D cy ad hV h) rfl (fX12_o hV) (by rw [(fX12_c hV)]; rfl) (by rw [(fX12_c hV)]; decide) rfl uw_1259 uw_1256 uw_1258 up_38 uw_9 hd_X12_write_ ⟨Nat.le_of_ble_eq_true rfl, Nat.le_of_ble_eq_true rfl⟩ ⟨Nat.zero_le _, Nat.zero_le _⟩ rfl rfl (hw_le ad [] rfl (Nat.le_of_ble_eq_true rfl)) dX12_go_1 (kkV (fun S1 H locs h G => ?_))
  refine gx_aload_n C hl dX12_go_4 rfl ?_
  refine gx_getI C G rfl (fX12_o hV) (fo11_40 (fX12_c hV)) uw_995 (fun _ h9 => h9) dX12_go_5 ?_
  have r2 := G.r o 40
  refine gx_iconst C dX12_go_8 ?_
  refine gx_icmp_ne (tgt := 35) C r2 (show rng 4 by decide) dX12_go_9 (by decide) (fun c3 => ?_) (fun c3 => ?_)
  · have h := h.1 c3
    refine gx_aload_n C hl dX12_go_35 rfl ?_
    refine gx_getI C G rfl (fX12_o hV) (fo11_40 (fX12_c hV)) uw_995 (fun _ h9 => h9) dX12_go_36 ?_
    have r4 := G.r o 40
    refine gx_if_ne (tgt := 76) C r4 dX12_go_39 (by decide) (fun c5 => ?_) (fun c5 => ?_)
    · have h := h.1 c5
      refine gx_aload_n C hl dX12_go_76 rfl ?_
      refine gx_getI C G rfl (fX12_o hV) (fo11_40 (fX12_c hV)) uw_995 (fun _ h9 => h9) dX12_go_77 ?_
      have r6 := G.r o 40
      refine gx_iconst C dX12_go_80 ?_
      refine gx_icmp_ne (tgt := 98) C r6 (show rng 1 by decide) dX12_go_81 (by decide) (fun c7 => ?_) (fun c7 => ?_)
      · have h := h.1 c7
        refine gx_aload_n C hl dX12_go_98 rfl ?_
        refine gx_dupR C dX12_go_99 ?_
        refine gx_getI C G rfl (fX12_o hV) (fo11_25 (fX12_c hV)) uw_980 (fun _ h9 => h9) dX12_go_100 ?_
        have r8 := G.r o 25
        refine gx_iconst C dX12_go_103 ?_
        obtain ⟨h9, h⟩ := h
        refine gx_iadd C dX12_go_104 ?_
        refine gx_putI C G rfl (fX12_o hV) (fo11_25 (fX12_c hV)) h9 uw_980 (fun _ h9 => h9) dX12_go_105 (fun H locs G => ?_)
        obtain ⟨S10, eS10⟩ : ∃ q9 : Me, q9 = sI S1 o 25 ((S1.1 o 25) + 1) := ⟨_, rfl⟩
        have h := h S10 eS10
        rw [← eS10] at G
        refine gx_aload_n C hl dX12_go_108 rfl ?_
        refine gx_aload_n C hl dX12_go_109 rfl ?_
        refine gx_getI C G rfl (fX12_o hV) (fo11_42 (fX12_c hV)) uw_997 (fun _ h9 => h9) dX12_go_110 ?_
        have r11 := G.r o 42
        refine gx_callV C G hl hml (c_X12_access l D cy ad hV r11 h) rfl (fX12_o hV) (by rw [(fX12_c hV)]; rfl) (by rw [(fX12_c hV)]; decide) rfl uw_1263 uw_1260 uw_1262 up_39 uw_9 hd_X12_access ⟨Nat.le_of_ble_eq_true rfl, Nat.le_of_ble_eq_true rfl⟩ ⟨Nat.zero_le _, Nat.zero_le _⟩ rfl rfl (hw_le ad [] rfl (Nat.le_of_ble_eq_true rfl)) dX12_go_113 (kkV (fun S12 H locs h G => ?_))
        refine gx_aload_n C hl dX12_go_116 rfl ?_
        refine gx_callV C G hl hml (c_X12_findOldest l D cy ad hV h) rfl (fX12_o hV) (by rw [(fX12_c hV)]; rfl) (by rw [(fX12_c hV)]; decide) rfl uw_1148 uw_1145 uw_1147 up_17 uw_9 hd_X12_findOldest ⟨Nat.le_of_ble_eq_true rfl, Nat.le_of_ble_eq_true rfl⟩ ⟨Nat.zero_le _, Nat.zero_le _⟩ rfl rfl (hw_le ad [] rfl (Nat.le_of_ble_eq_true rfl)) dX12_go_117 (kkV (fun S13 H locs h G => ?_))
        exact gx_vret C G hret h dX12_go_120
      · have h := h.2 c7
        refine gx_aload_n C hl dX12_go_84 rfl ?_
        refine gx_getF C G rfl (fX12_o hV) (fo11_11 (fX12_c hV)) (fX12_row hV) uw_966 (fun _ h9 => h9) dX12_go_85 ?_
        refine gx_aload_n C hl dX12_go_88 rfl ?_
        refine gx_getI C G rfl (fX12_o hV) (fo11_41 (fX12_c hV)) uw_996 (fun _ h9 => h9) dX12_go_89 ?_
        have r14 := G.r o 41
        refine gx_bipush C dX12_go_92 (by decide) ?_
        obtain ⟨h15, h⟩ := h
        refine gx_iast C G rfl (fX12_row_l hV) (fX12_row_t hV) r14 (show rng (-2) by decide) h15.1 (ixl (fX12_row_n hV) h15.2) dX12_go_94 (fun H locs G => ?_)
        obtain ⟨S16, eS16⟩ : ∃ q9 : Me, q9 = sI S1 (o + 2) (Int.toNat (S1.1 o 41)) (-2) := ⟨_, rfl⟩
        have h := h S16 eS16
        rw [← eS16] at G
        refine gx_goto (tgt := 120) C dX12_go_95 (by decide) ?_
        exact gx_vret C G hret h dX12_go_120
    · have h := h.2 c5
      refine gx_aload_n C hl dX12_go_42 rfl ?_
      refine gx_getF C G rfl (fX12_o hV) (fo11_11 (fX12_c hV)) (fX12_row hV) uw_966 (fun _ h9 => h9) dX12_go_43 ?_
      refine gx_aload_n C hl dX12_go_46 rfl ?_
      refine gx_getI C G rfl (fX12_o hV) (fo11_41 (fX12_c hV)) uw_996 (fun _ h9 => h9) dX12_go_47 ?_
      have r17 := G.r o 41
      refine gx_aload_n C hl dX12_go_50 rfl ?_
      refine gx_getF C G rfl (fX12_o hV) (fo11_17 (fX12_c hV)) (fX12_address hV) uw_972 (fun _ h9 => h9) dX12_go_51 ?_
      refine gx_aload_n C hl dX12_go_54 rfl ?_
      refine gx_getI C G rfl (fX12_o hV) (fo11_42 (fX12_c hV)) uw_997 (fun _ h9 => h9) dX12_go_55 ?_
      have r18 := G.r o 42
      obtain ⟨h19, h⟩ := h
      refine gx_iald C G rfl (fX12_address_l hV) (fX12_address_t hV) r18 h19.1 (ixl (fX12_address_n hV) h19.2) dX12_go_58 ?_
      have r20 := G.r (o + 6) (Int.toNat (S1.1 o 42))
      refine gx_callS C G hl hml (c_X12_rowOf l D cy ad r20 h) uw_1239 uw_1237 uw_1238 uw_9 hd_X12_rowOf ⟨Nat.le_of_ble_eq_true rfl, Nat.le_of_ble_eq_true rfl⟩ ⟨Nat.zero_le _, Nat.zero_le _⟩ rfl rfl (hw_le ad [.inl (S1.1 o 41), .inr (some (o + 2))] rfl (Nat.le_of_ble_eq_true rfl)) dX12_go_59 (kkI (fun t22 S21 H locs rt22 h G => ?_))
      obtain ⟨h23, h⟩ := h
      refine gx_iast C G rfl (fX12_row_l hV) (fX12_row_t hV) r17 rt22 h23.1 (ixl (fX12_row_n hV) h23.2) dX12_go_62 (fun H locs G => ?_)
      obtain ⟨S24, eS24⟩ : ∃ q9 : Me, q9 = sI S21 (o + 2) (Int.toNat (S1.1 o 41)) t22 := ⟨_, rfl⟩
      have h := h S24 eS24
      rw [← eS24] at G
      refine gx_aload_n C hl dX12_go_63 rfl ?_
      refine gx_dupR C dX12_go_64 ?_
      refine gx_getI C G rfl (fX12_o hV) (fo11_10 (fX12_c hV)) uw_965 (fun _ h9 => h9) dX12_go_65 ?_
      have r25 := G.r o 10
      refine gx_iconst C dX12_go_68 ?_
      obtain ⟨h26, h⟩ := h
      refine gx_iadd C dX12_go_69 ?_
      refine gx_putI C G rfl (fX12_o hV) (fo11_10 (fX12_c hV)) h26 uw_965 (fun _ h9 => h9) dX12_go_70 (fun H locs G => ?_)
      obtain ⟨S27, eS27⟩ : ∃ q9 : Me, q9 = sI S24 o 10 ((S24.1 o 10) + 1) := ⟨_, rfl⟩
      have h := h S27 eS27
      rw [← eS27] at G
      refine gx_goto (tgt := 120) C dX12_go_73 (by decide) ?_
      exact gx_vret C G hret h dX12_go_120
  · have h := h.2 c3
    refine gx_aload_n C hl dX12_go_12 rfl ?_
    refine gx_dupR C dX12_go_13 ?_
    refine gx_getI C G rfl (fX12_o hV) (fo11_7 (fX12_c hV)) uw_962 (fun _ h9 => h9) dX12_go_14 ?_
    have r28 := G.r o 7
    refine gx_iconst C dX12_go_17 ?_
    obtain ⟨h29, h⟩ := h
    refine gx_isub C dX12_go_18 ?_
    refine gx_putI C G rfl (fX12_o hV) (fo11_7 (fX12_c hV)) h29 uw_962 (fun _ h9 => h9) dX12_go_19 (fun H locs G => ?_)
    obtain ⟨S30, eS30⟩ : ∃ q9 : Me, q9 = sI S1 o 7 ((S1.1 o 7) - 1) := ⟨_, rfl⟩
    have h := h S30 eS30
    rw [← eS30] at G
    refine gx_aload_n C hl dX12_go_22 rfl ?_
    refine gx_dupR C dX12_go_23 ?_
    refine gx_getI C G rfl (fX12_o hV) (fo11_8 (fX12_c hV)) uw_963 (fun _ h9 => h9) dX12_go_24 ?_
    have r31 := G.r o 8
    refine gx_iconst C dX12_go_27 ?_
    obtain ⟨h32, h⟩ := h
    refine gx_iadd C dX12_go_28 ?_
    refine gx_putI C G rfl (fX12_o hV) (fo11_8 (fX12_c hV)) h32 uw_963 (fun _ h9 => h9) dX12_go_29 (fun H locs G => ?_)
    obtain ⟨S33, eS33⟩ : ∃ q9 : Me, q9 = sI S30 o 8 ((S30.1 o 8) + 1) := ⟨_, rfl⟩
    have h := h S33 eS33
    rw [← eS33] at G
    refine gx_goto (tgt := 120) C dX12_go_32 (by decide) ?_
    exact gx_vret C G hret h dX12_go_120
def B_X12_isBehind_41 (V : Vt) (o : Nat) (x1 : Int) (K4 : Int → Int → Me → Prop) (y3 : Int) (w0 : Int) (S : Me) (Q : Int → Me → Prop) : Prop := (rng (y3 + 1)) ∧ K4 w0 (y3 + 1) S
def B_X12_isBehind_40 (V : Vt) (o : Nat) (x1 : Int) (K4 : Int → Int → Me → Prop) (y3 : Int) (S : Me) (Q : Int → Me → Prop) : Prop := B_X12_isBehind_41 V o x1 K4 y3 0 S Q
def B_X12_isBehind_36 (V : Vt) (o : Nat) (x1 : Int) (K4 : Int → Int → Me → Prop) (y3 : Int) (S : Me) (Q : Int → Me → Prop) : Prop := B_X12_isBehind_41 V o x1 K4 y3 1 S Q
def B_X12_isBehind_4 (V : Vt) (o : Nat) (x1 : Int) (Q : Int → Me → Prop) : Nat → (Int → Int → Me → Prop)
  | 0 => fun _ _ _ => False
  | n + 1 => fun y2 y3 S => ((x1 ≤ y3 → (y2 = 0 ∨ y2 = 1) ∧ Q y2 S) ∧ (¬ x1 ≤ y3 → ((y2 = 0 → B_X12_isBehind_40 V o x1 (B_X12_isBehind_4 V o x1 Q n) y3 S Q) ∧ (¬ y2 = 0 → PT_X12_waits V o y3 S (fun t6 S5 => ((t6 = 0 → B_X12_isBehind_36 V o x1 (B_X12_isBehind_4 V o x1 Q n) y3 S5 Q) ∧ (¬ t6 = 0 → (0 ≤ y3 ∧ y3 < 400) ∧ (0 ≤ x1 ∧ x1 < 400) ∧ (((S5.1 (o + 5) (Int.toNat y3)) = (S5.1 (o + 5) (Int.toNat x1)) → B_X12_isBehind_40 V o x1 (B_X12_isBehind_4 V o x1 Q n) y3 S5 Q) ∧ (¬ (S5.1 (o + 5) (Int.toNat y3)) = (S5.1 (o + 5) (Int.toNat x1)) → B_X12_isBehind_36 V o x1 (B_X12_isBehind_4 V o x1 Q n) y3 S5 Q)))))))))
def PT_X12_isBehind (V : Vt) (o : Nat) (x1 : Int) (S : Me) (Q : Int → Me → Prop) : Prop := (∃ n9 : Nat, B_X12_isBehind_4 V o x1 Q n9 1 0 S)
theorem hd_X12_isBehind : yX12_isBehind.cls ≠ "java/lang/invoke/MethodHandle" ∧ yX12_isBehind.cls ≠ "java/lang/invoke/VarHandle" ∧ (parseMethodDescriptor yX12_isBehind.desc).map (fun d => d.parameters.length) = some 1 := by decide +kernel
set_option maxHeartbeats 4000000 in
set_option maxRecDepth 100000 in
theorem c_X12_isBehind (l : Launch) (D : va_G) (cy : ClassId × ClassId × ClassId × ClassId) (ad : Nat → Nat) {V : Vt} {S : Me} {o : Nat} {x1 : Int} (hV : fX12 V o) (rx1 : rng x1) {Q : Int → Me → Prop} (h : PT_X12_isBehind V o x1 S Q) : KM l D cy yX12_isBehind cX12_isBehind 4 (Option.some Jvm.ClassFile.FieldType.boolean) 1 21 ad V S [.inr (some o), .inl x1] (qI Q) := by
  refine KM.of (by decide) rfl (Nat.le_of_ble_eq_true rfl) (own := RX12) (fun p e s m args below meth c A ls H locs eA C hret hml hmn hl G => ?_)
  have hl : lo ad ls [some (.inr (some o)), some (.inl x1), none, none] := hl
  have b41 : ∀ (K4 : Int → Int → Me → Prop) (hK4 : ∀ (y2 : Int) (y3 : Int) (S : Me) (H : Heap) (locs : List Loc) (ls : Array Slot), rng y2 → rng y3 → lo ad ls [some (.inr (some o)), some (.inl x1), some (.inl y2), some (.inl y3)] → Gy D cy A s.heap ad V S H locs → K4 y2 y3 S → W p l e (rmx 1 21) s m args below meth c H locs 0 0 (qm below D cy ad V A args s (qI Q)) (F0 m 4 ls [])) (y3 : Int) (w0 : Int) (S : Me) (H : Heap) (locs : List Loc) (ls : Array Slot), rng y3 → rng w0 → lo ad ls [some (.inr (some o)), some (.inl x1), none, some (.inl y3)] → Gy D cy A s.heap ad V S H locs → B_X12_isBehind_41 V o x1 K4 y3 w0 S Q → W p l e (rmx 1 21) s m args below meth c H locs 0 0 (qm below D cy ad V A args s (qI Q)) (F0 m 41 ls [vI w0]) := by
    intro K4 hK4 y3 w0 S H locs ls ry3 rw0 hl G h
    unfold B_X12_isBehind_41 at h
    refine gx_istore_n C hl dX12_isBehind_41 (Nat.le_of_ble_eq_true rfl) (PL' := [some (.inr (some o)), some (.inl x1), some (.inl w0), some (.inl y3)]) rfl (fun ls hl => ?_)
    obtain ⟨h1, h⟩ := h
    refine gx_iinc C hl dX12_isBehind_42 rfl (PL' := [some (.inr (some o)), some (.inl x1), some (.inl w0), some (.inl (y3 + 1))]) rfl (fun ls hl => ?_)
    refine gx_goto (tgt := 4) C dX12_isBehind_45 (by decide) ?_
    exact hK4 w0 (y3 + 1) S H locs ls rw0 h1 hl G h
  have b40 : ∀ (K4 : Int → Int → Me → Prop) (hK4 : ∀ (y2 : Int) (y3 : Int) (S : Me) (H : Heap) (locs : List Loc) (ls : Array Slot), rng y2 → rng y3 → lo ad ls [some (.inr (some o)), some (.inl x1), some (.inl y2), some (.inl y3)] → Gy D cy A s.heap ad V S H locs → K4 y2 y3 S → W p l e (rmx 1 21) s m args below meth c H locs 0 0 (qm below D cy ad V A args s (qI Q)) (F0 m 4 ls [])) (y3 : Int) (S : Me) (H : Heap) (locs : List Loc) (ls : Array Slot), rng y3 → lo ad ls [some (.inr (some o)), some (.inl x1), none, some (.inl y3)] → Gy D cy A s.heap ad V S H locs → B_X12_isBehind_40 V o x1 K4 y3 S Q → W p l e (rmx 1 21) s m args below meth c H locs 0 0 (qm below D cy ad V A args s (qI Q)) (F0 m 40 ls []) := by
    intro K4 hK4 y3 S H locs ls ry3 hl G h
    unfold B_X12_isBehind_40 at h
    refine gx_iconst C dX12_isBehind_40 ?_
    exact b41 K4 hK4 y3 0 S H locs ls ry3 (show rng 0 by decide) hl G h
  have b36 : ∀ (K4 : Int → Int → Me → Prop) (hK4 : ∀ (y2 : Int) (y3 : Int) (S : Me) (H : Heap) (locs : List Loc) (ls : Array Slot), rng y2 → rng y3 → lo ad ls [some (.inr (some o)), some (.inl x1), some (.inl y2), some (.inl y3)] → Gy D cy A s.heap ad V S H locs → K4 y2 y3 S → W p l e (rmx 1 21) s m args below meth c H locs 0 0 (qm below D cy ad V A args s (qI Q)) (F0 m 4 ls [])) (y3 : Int) (S : Me) (H : Heap) (locs : List Loc) (ls : Array Slot), rng y3 → lo ad ls [some (.inr (some o)), some (.inl x1), none, some (.inl y3)] → Gy D cy A s.heap ad V S H locs → B_X12_isBehind_36 V o x1 K4 y3 S Q → W p l e (rmx 1 21) s m args below meth c H locs 0 0 (qm below D cy ad V A args s (qI Q)) (F0 m 36 ls []) := by
    intro K4 hK4 y3 S H locs ls ry3 hl G h
    unfold B_X12_isBehind_36 at h
    refine gx_iconst C dX12_isBehind_36 ?_
    refine gx_goto (tgt := 41) C dX12_isBehind_37 (by decide) ?_
    exact b41 K4 hK4 y3 1 S H locs ls ry3 (show rng 1 by decide) hl G h
  have b4 : ∀ (n : Nat) (y2 : Int) (y3 : Int) (S : Me) (H : Heap) (locs : List Loc) (ls : Array Slot), rng y2 → rng y3 → lo ad ls [some (.inr (some o)), some (.inl x1), some (.inl y2), some (.inl y3)] → Gy D cy A s.heap ad V S H locs → B_X12_isBehind_4 V o x1 Q n y2 y3 S → W p l e (rmx 1 21) s m args below meth c H locs 0 0 (qm below D cy ad V A args s (qI Q)) (F0 m 4 ls []) := by
    intro n
    induction n with
    | zero =>
      intro y2 y3 S H locs ls ry2 ry3 hl G h
      exact absurd h id
    | succ n ih =>
      intro y2 y3 S H locs ls ry2 ry3 hl G h
      rw [B_X12_isBehind_4] at h
      refine gx_iload_n C hl dX12_isBehind_4 rfl ?_
      refine gx_iload_n C hl dX12_isBehind_5 rfl ?_
      refine gx_icmp_ge (tgt := 48) C ry3 rx1 dX12_isBehind_6 (by decide) (fun c2 => ?_) (fun c2 => ?_)
      · have h := h.1 c2
        refine gx_iload_n C hl dX12_isBehind_48 rfl ?_
        obtain ⟨h3, h⟩ := h
        exact gx_zret C G hret h3 h dX12_isBehind_49
      · have h := h.2 c2
        refine gx_iload_n C hl dX12_isBehind_9 rfl ?_
        refine gx_if_eq (tgt := 40) C ry2 dX12_isBehind_10 (by decide) (fun c4 => ?_) (fun c4 => ?_)
        · have h := h.1 c4
          exact b40 (B_X12_isBehind_4 V o x1 Q n) ih y3 S H locs ls ry3 (lo_mask (bs := [true, true, false, true]) hl rfl rfl) G h
        · have h := h.2 c4
          refine gx_aload_n C hl dX12_isBehind_13 rfl ?_
          refine gx_iload_n C hl dX12_isBehind_14 rfl ?_
          refine gx_callV C G hl hml (c_X12_waits l D cy ad hV ry3 h) rfl (fX12_o hV) (by rw [(fX12_c hV)]; rfl) (by rw [(fX12_c hV)]; decide) rfl uw_1181 uw_1178 uw_1180 up_20 uw_9 hd_X12_waits ⟨Nat.le_of_ble_eq_true rfl, Nat.le_of_ble_eq_true rfl⟩ ⟨Nat.zero_le _, Nat.zero_le _⟩ rfl rfl (hw_le ad [] rfl (Nat.le_of_ble_eq_true rfl)) dX12_isBehind_15 (kkI (fun t6 S5 H locs rt6 h G => ?_))
          refine gx_if_eq (tgt := 36) C rt6 dX12_isBehind_18 (by decide) (fun c7 => ?_) (fun c7 => ?_)
          · have h := h.1 c7
            exact b36 (B_X12_isBehind_4 V o x1 Q n) ih y3 S5 H locs ls ry3 (lo_mask (bs := [true, true, false, true]) hl rfl rfl) G h
          · have h := h.2 c7
            refine gx_aload_n C hl dX12_isBehind_21 rfl ?_
            refine gx_getF C G rfl (fX12_o hV) (fo11_16 (fX12_c hV)) (fX12_asker hV) uw_971 (fun _ h9 => h9) dX12_isBehind_22 ?_
            refine gx_iload_n C hl dX12_isBehind_25 rfl ?_
            obtain ⟨h8, h⟩ := h
            refine gx_iald C G rfl (fX12_asker_l hV) (fX12_asker_t hV) ry3 h8.1 (ixl (fX12_asker_n hV) h8.2) dX12_isBehind_26 ?_
            have r9 := G.r (o + 5) (Int.toNat y3)
            refine gx_aload_n C hl dX12_isBehind_27 rfl ?_
            refine gx_getF C G rfl (fX12_o hV) (fo11_16 (fX12_c hV)) (fX12_asker hV) uw_971 (fun _ h9 => h9) dX12_isBehind_28 ?_
            refine gx_iload_n C hl dX12_isBehind_31 rfl ?_
            obtain ⟨h10, h⟩ := h
            refine gx_iald C G rfl (fX12_asker_l hV) (fX12_asker_t hV) rx1 h10.1 (ixl (fX12_asker_n hV) h10.2) dX12_isBehind_32 ?_
            have r11 := G.r (o + 5) (Int.toNat x1)
            refine gx_icmp_eq (tgt := 40) C r9 r11 dX12_isBehind_33 (by decide) (fun c12 => ?_) (fun c12 => ?_)
            · have h := h.1 c12
              exact b40 (B_X12_isBehind_4 V o x1 Q n) ih y3 S5 H locs ls ry3 (lo_mask (bs := [true, true, false, true]) hl rfl rfl) G h
            · have h := h.2 c12
              exact b36 (B_X12_isBehind_4 V o x1 Q n) ih y3 S5 H locs ls ry3 (lo_mask (bs := [true, true, false, true]) hl rfl rfl) G h
  clear eA
  unfold PT_X12_isBehind at h
  refine gx_iconst C dX12_isBehind_0 ?_
  refine gx_istore_n C hl dX12_isBehind_1 (Nat.le_of_ble_eq_true rfl) (PL' := [some (.inr (some o)), some (.inl x1), some (.inl 1), none]) rfl (fun ls hl => ?_)
  refine gx_iconst C dX12_isBehind_2 ?_
  refine gx_istore_n C hl dX12_isBehind_3 (Nat.le_of_ble_eq_true rfl) (PL' := [some (.inr (some o)), some (.inl x1), some (.inl 1), some (.inl 0)]) rfl (fun ls hl => ?_)
  obtain ⟨n9, h⟩ := h
  exact b4 n9 1 0 S H locs ls (show rng 1 by decide) (show rng 0 by decide) hl G h
def B_X12_begin_74 (V : Vt) (o : Nat) (K35 : Int → Me → Prop) (y1 : Int) (S : Me) (Q : Me → Prop) : Prop := (rng (y1 + 1)) ∧ K35 (y1 + 1) S
def B_X12_begin_35 (V : Vt) (o : Nat) (Q : Me → Prop) : Nat → (Int → Me → Prop)
  | 0 => fun _ _ => False
  | n + 1 => fun y1 S => (((S.1 o 13) ≤ y1 → Q S) ∧ (¬ (S.1 o 13) ≤ y1 → PT_X12_waits V o y1 S (fun t5 S4 => ((t5 = 0 → B_X12_begin_74 V o (B_X12_begin_35 V o Q n) y1 S4 Q) ∧ (¬ t5 = 0 → (0 ≤ y1 ∧ y1 < 400) ∧ ((¬ (S4.1 (o + 4) (Int.toNat y1)) = 4 → B_X12_begin_74 V o (B_X12_begin_35 V o Q n) y1 S4 Q) ∧ ((S4.1 (o + 4) (Int.toNat y1)) = 4 → PT_X12_isBehind V o y1 S4 (fun t11 S10 => ((t11 = 0 → B_X12_begin_74 V o (B_X12_begin_35 V o Q n) y1 S10 Q) ∧ (¬ t11 = 0 → PT_X12_finish V o y1 S10 (fun S13 => B_X12_begin_74 V o (B_X12_begin_35 V o Q n) y1 S13 Q)))))))))))
def B_X12_begin_29 (V : Vt) (o : Nat) (w0 : Option Nat) (w1 : Int) (w2 : Int) (S : Me) (Q : Me → Prop) : Prop := (rng (w1 + w2)) ∧ ∃ z15 : Nat, w0 = some z15 ∧ fX12 V z15 ∧ ∀ S16 : Me, S16 = sI S z15 7 (w1 + w2) → (∃ n9 : Nat, B_X12_begin_35 V o Q n9 0 S16)
def B_X12_begin_28 (V : Vt) (o : Nat) (w0 : Option Nat) (w1 : Int) (S : Me) (Q : Me → Prop) : Prop := B_X12_begin_29 V o w0 w1 0 S Q
def PT_X12_begin (V : Vt) (o : Nat) (S : Me) (Q : Me → Prop) : Prop := (((S.1 o 2) ≤ 0 → B_X12_begin_28 V o (some o) (S.1 o 7) S Q) ∧ (¬ (S.1 o 2) ≤ 0 → ((S.1 o 2) ≠ 0) ∧ ((¬ (Int.tmod (S.1 o 6) (S.1 o 2)) = 0 → B_X12_begin_28 V o (some o) (S.1 o 7) S Q) ∧ ((Int.tmod (S.1 o 6) (S.1 o 2)) = 0 → B_X12_begin_29 V o (some o) (S.1 o 7) 1 S Q))))
theorem hd_X12_begin : yX12_begin.cls ≠ "java/lang/invoke/MethodHandle" ∧ yX12_begin.cls ≠ "java/lang/invoke/VarHandle" ∧ (parseMethodDescriptor yX12_begin.desc).map (fun d => d.parameters.length) = some 0 := by decide +kernel
set_option maxHeartbeats 4000000 in
set_option maxRecDepth 100000 in
theorem c_X12_begin (l : Launch) (D : va_G) (cy : ClassId × ClassId × ClassId × ClassId) (ad : Nat → Nat) {V : Vt} {S : Me} {o : Nat} (hV : fX12 V o) {Q : Me → Prop} (h : PT_X12_begin V o S Q) : KM l D cy yX12_begin cX12_begin 2 (Option.none : Option Jvm.ClassFile.FieldType) 2 44 ad V S [.inr (some o)] (qV Q) := by
  refine KM.of (by decide) rfl (Nat.le_of_ble_eq_true rfl) (own := RX12) (fun p e s m args below meth c A ls H locs eA C hret hml hmn hl G => ?_)
  have hl : lo ad ls [some (.inr (some o)), none] := hl
  have b74 : ∀ (K35 : Int → Me → Prop) (hK35 : ∀ (y1 : Int) (S : Me) (H : Heap) (locs : List Loc) (ls : Array Slot), rng y1 → lo ad ls [some (.inr (some o)), some (.inl y1)] → Gy D cy A s.heap ad V S H locs → K35 y1 S → W p l e (rmx 2 44) s m args below meth c H locs 0 0 (qm below D cy ad V A args s (qV Q)) (F0 m 35 ls [])) (y1 : Int) (S : Me) (H : Heap) (locs : List Loc) (ls : Array Slot), rng y1 → lo ad ls [some (.inr (some o)), some (.inl y1)] → Gy D cy A s.heap ad V S H locs → B_X12_begin_74 V o K35 y1 S Q → W p l e (rmx 2 44) s m args below meth c H locs 0 0 (qm below D cy ad V A args s (qV Q)) (F0 m 74 ls []) := by
    intro K35 hK35 y1 S H locs ls ry1 hl G h
    unfold B_X12_begin_74 at h
    obtain ⟨h1, h⟩ := h
    refine gx_iinc C hl dX12_begin_74 rfl (PL' := [some (.inr (some o)), some (.inl (y1 + 1))]) rfl (fun ls hl => ?_)
    refine gx_goto (tgt := 35) C dX12_begin_77 (by decide) ?_
    exact hK35 (y1 + 1) S H locs ls h1 hl G h
  have b35 : ∀ (n : Nat) (y1 : Int) (S : Me) (H : Heap) (locs : List Loc) (ls : Array Slot), rng y1 → lo ad ls [some (.inr (some o)), some (.inl y1)] → Gy D cy A s.heap ad V S H locs → B_X12_begin_35 V o Q n y1 S → W p l e (rmx 2 44) s m args below meth c H locs 0 0 (qm below D cy ad V A args s (qV Q)) (F0 m 35 ls []) := by
    intro n
    induction n with
    | zero =>
      intro y1 S H locs ls ry1 hl G h
      exact absurd h id
    | succ n ih =>
      intro y1 S H locs ls ry1 hl G h
      rw [B_X12_begin_35] at h
      refine gx_iload_n C hl dX12_begin_35 rfl ?_
      refine gx_aload_n C hl dX12_begin_36 rfl ?_
      refine gx_getI C G rfl (fX12_o hV) (fo11_13 (fX12_c hV)) uw_968 (fun _ h9 => h9) dX12_begin_37 ?_
      have r2 := G.r o 13
      refine gx_icmp_ge (tgt := 80) C ry1 r2 dX12_begin_40 (by decide) (fun c3 => ?_) (fun c3 => ?_)
      · have h := h.1 c3
        exact gx_vret C G hret h dX12_begin_80
      · have h := h.2 c3
        refine gx_aload_n C hl dX12_begin_43 rfl ?_
        refine gx_iload_n C hl dX12_begin_44 rfl ?_
        refine gx_callV C G hl hml (c_X12_waits l D cy ad hV ry1 h) rfl (fX12_o hV) (by rw [(fX12_c hV)]; rfl) (by rw [(fX12_c hV)]; decide) rfl uw_1181 uw_1178 uw_1180 up_20 uw_9 hd_X12_waits ⟨Nat.le_of_ble_eq_true rfl, Nat.le_of_ble_eq_true rfl⟩ ⟨Nat.zero_le _, Nat.zero_le _⟩ rfl rfl (hw_le ad [] rfl (Nat.le_of_ble_eq_true rfl)) dX12_begin_45 (kkI (fun t5 S4 H locs rt5 h G => ?_))
        refine gx_if_eq (tgt := 74) C rt5 dX12_begin_48 (by decide) (fun c6 => ?_) (fun c6 => ?_)
        · have h := h.1 c6
          exact b74 (B_X12_begin_35 V o Q n) ih y1 S4 H locs ls ry1 hl G h
        · have h := h.2 c6
          refine gx_aload_n C hl dX12_begin_51 rfl ?_
          refine gx_getF C G rfl (fX12_o hV) (fo11_15 (fX12_c hV)) (fX12_kind hV) uw_970 (fun _ h9 => h9) dX12_begin_52 ?_
          refine gx_iload_n C hl dX12_begin_55 rfl ?_
          obtain ⟨h7, h⟩ := h
          refine gx_iald C G rfl (fX12_kind_l hV) (fX12_kind_t hV) ry1 h7.1 (ixl (fX12_kind_n hV) h7.2) dX12_begin_56 ?_
          have r8 := G.r (o + 4) (Int.toNat y1)
          refine gx_iconst C dX12_begin_57 ?_
          refine gx_icmp_ne (tgt := 74) C r8 (show rng 4 by decide) dX12_begin_58 (by decide) (fun c9 => ?_) (fun c9 => ?_)
          · have h := h.1 c9
            exact b74 (B_X12_begin_35 V o Q n) ih y1 S4 H locs ls ry1 hl G h
          · have h := h.2 c9
            refine gx_aload_n C hl dX12_begin_61 rfl ?_
            refine gx_iload_n C hl dX12_begin_62 rfl ?_
            refine gx_callV C G hl hml (c_X12_isBehind l D cy ad hV ry1 h) rfl (fX12_o hV) (by rw [(fX12_c hV)]; rfl) (by rw [(fX12_c hV)]; decide) rfl uw_1185 uw_1182 uw_1184 up_21 uw_9 hd_X12_isBehind ⟨Nat.le_of_ble_eq_true rfl, Nat.le_of_ble_eq_true rfl⟩ ⟨Nat.zero_le _, Nat.zero_le _⟩ rfl rfl (hw_le ad [] rfl (Nat.le_of_ble_eq_true rfl)) dX12_begin_63 (kkI (fun t11 S10 H locs rt11 h G => ?_))
            refine gx_if_eq (tgt := 74) C rt11 dX12_begin_66 (by decide) (fun c12 => ?_) (fun c12 => ?_)
            · have h := h.1 c12
              exact b74 (B_X12_begin_35 V o Q n) ih y1 S10 H locs ls ry1 hl G h
            · have h := h.2 c12
              refine gx_aload_n C hl dX12_begin_69 rfl ?_
              refine gx_iload_n C hl dX12_begin_70 rfl ?_
              refine gx_callV C G hl hml (c_X12_finish l D cy ad hV ry1 h) rfl (fX12_o hV) (by rw [(fX12_c hV)]; rfl) (by rw [(fX12_c hV)]; decide) rfl uw_1189 uw_1186 uw_1188 up_22 uw_9 hd_X12_finish ⟨Nat.le_of_ble_eq_true rfl, Nat.le_of_ble_eq_true rfl⟩ ⟨Nat.zero_le _, Nat.zero_le _⟩ rfl rfl (hw_le ad [] rfl (Nat.le_of_ble_eq_true rfl)) dX12_begin_71 (kkV (fun S13 H locs h G => ?_))
              exact b74 (B_X12_begin_35 V o Q n) ih y1 S13 H locs ls ry1 hl G h
  have b29 : ∀ (w0 : Option Nat) (w1 : Int) (w2 : Int) (S : Me) (H : Heap) (locs : List Loc) (ls : Array Slot), (∀ z, w0 = some z → z < V.1) → rng w1 → rng w2 → lo ad ls [some (.inr (some o)), none] → Gy D cy A s.heap ad V S H locs → B_X12_begin_29 V o w0 w1 w2 S Q → W p l e (rmx 2 44) s m args below meth c H locs 0 0 (qm below D cy ad V A args s (qV Q)) (F0 m 29 ls [vI w2, vI w1, vR ad w0]) := by
    intro w0 w1 w2 S H locs ls vw0 rw1 rw2 hl G h
    unfold B_X12_begin_29 at h
    obtain ⟨h14, h⟩ := h
    refine gx_iadd C dX12_begin_29 ?_
    obtain ⟨z15, hz15, tz15, h⟩ := h
    have lz15 := (vw0 z15 hz15)
    refine gx_putI C G hz15 lz15 (fo11_7 (fX12_c tz15)) h14 uw_962 (fun _ h9 => h9) dX12_begin_30 (fun H locs G => ?_)
    obtain ⟨S16, eS16⟩ : ∃ q9 : Me, q9 = sI S z15 7 (w1 + w2) := ⟨_, rfl⟩
    have h := h S16 eS16
    rw [← eS16] at G
    refine gx_iconst C dX12_begin_33 ?_
    refine gx_istore_n C hl dX12_begin_34 (Nat.le_of_ble_eq_true rfl) (PL' := [some (.inr (some o)), some (.inl 0)]) rfl (fun ls hl => ?_)
    obtain ⟨n9, h⟩ := h
    exact b35 n9 0 S16 H locs ls (show rng 0 by decide) hl G h
  have b28 : ∀ (w0 : Option Nat) (w1 : Int) (S : Me) (H : Heap) (locs : List Loc) (ls : Array Slot), (∀ z, w0 = some z → z < V.1) → rng w1 → lo ad ls [some (.inr (some o)), none] → Gy D cy A s.heap ad V S H locs → B_X12_begin_28 V o w0 w1 S Q → W p l e (rmx 2 44) s m args below meth c H locs 0 0 (qm below D cy ad V A args s (qV Q)) (F0 m 28 ls [vI w1, vR ad w0]) := by
    intro w0 w1 S H locs ls vw0 rw1 hl G h
    unfold B_X12_begin_28 at h
    refine gx_iconst C dX12_begin_28 ?_
    exact b29 w0 w1 0 S H locs ls vw0 rw1 (show rng 0 by decide) hl G h
  clear eA
  unfold PT_X12_begin at h
  refine gx_aload_n C hl dX12_begin_0 rfl ?_
  refine gx_dupR C dX12_begin_1 ?_
  refine gx_getI C G rfl (fX12_o hV) (fo11_7 (fX12_c hV)) uw_962 (fun _ h9 => h9) dX12_begin_2 ?_
  have r17 := G.r o 7
  refine gx_aload_n C hl dX12_begin_5 rfl ?_
  refine gx_getI C G rfl (fX12_o hV) (fo11_2 (fX12_c hV)) uw_957 (fun _ h9 => h9) dX12_begin_6 ?_
  have r18 := G.r o 2
  refine gx_if_le (tgt := 28) C r18 dX12_begin_9 (by decide) (fun c19 => ?_) (fun c19 => ?_)
  · have h := h.1 c19
    exact b28 (some o) (S.1 o 7) S H locs ls (vsome (fX12_o hV)) r17 hl G h
  · have h := h.2 c19
    refine gx_aload_n C hl dX12_begin_12 rfl ?_
    refine gx_getI C G rfl (fX12_o hV) (fo11_6 (fX12_c hV)) uw_961 (fun _ h9 => h9) dX12_begin_13 ?_
    have r20 := G.r o 6
    refine gx_aload_n C hl dX12_begin_16 rfl ?_
    refine gx_getI C G rfl (fX12_o hV) (fo11_2 (fX12_c hV)) uw_957 (fun _ h9 => h9) dX12_begin_17 ?_
    have r21 := G.r o 2
    obtain ⟨h22, h⟩ := h
    refine gx_irem C r20 r21 h22 dX12_begin_20 ?_
    refine gx_if_ne (tgt := 28) C (rg_md r20) dX12_begin_21 (by decide) (fun c23 => ?_) (fun c23 => ?_)
    · have h := h.1 c23
      exact b28 (some o) (S.1 o 7) S H locs ls (vsome (fX12_o hV)) r17 hl G h
    · have h := h.2 c23
      refine gx_iconst C dX12_begin_24 ?_
      refine gx_goto (tgt := 29) C dX12_begin_25 (by decide) ?_
      exact b29 (some o) (S.1 o 7) 1 S H locs ls (vsome (fX12_o hV)) r17 (show rng 1 by decide) hl G h
def B_X12_tick_19 (V : Vt) (o : Nat) (S : Me) (Q : Me → Prop) : Prop := (rng ((S.1 o 6) + 1)) ∧ ∀ S3 : Me, S3 = sI S o 6 ((S.1 o 6) + 1) → Q S3
def PT_X12_tick (V : Vt) (o : Nat) (S : Me) (Q : Me → Prop) : Prop := PT_X12_begin V o S (fun S4 => PT_X12_find V o S4 (fun S5 => (((S5.1 o 40) < 0 → B_X12_tick_19 V o S5 Q) ∧ (¬ (S5.1 o 40) < 0 → PT_X12_go V o S5 (fun S8 => B_X12_tick_19 V o S8 Q)))))
theorem hd_X12_tick : yX12_tick.cls ≠ "java/lang/invoke/MethodHandle" ∧ yX12_tick.cls ≠ "java/lang/invoke/VarHandle" ∧ (parseMethodDescriptor yX12_tick.desc).map (fun d => d.parameters.length) = some 0 := by decide +kernel
set_option maxHeartbeats 4000000 in
set_option maxRecDepth 100000 in
theorem c_X12_tick (l : Launch) (D : va_G) (cy : ClassId × ClassId × ClassId × ClassId) (ad : Nat → Nat) {V : Vt} {S : Me} {o : Nat} (hV : fX12 V o) {Q : Me → Prop} (h : PT_X12_tick V o S Q) : KM l D cy yX12_tick cX12_tick 1 (Option.none : Option Jvm.ClassFile.FieldType) 5 108 ad V S [.inr (some o)] (qV Q) := by
  refine KM.of (by decide) rfl (Nat.le_of_ble_eq_true rfl) (own := RX12) (fun p e s m args below meth c A ls H locs eA C hret hml hmn hl G => ?_)
  have hl : lo ad ls [some (.inr (some o))] := hl
  have b19 : ∀ (S : Me) (H : Heap) (locs : List Loc) (ls : Array Slot), lo ad ls [some (.inr (some o))] → Gy D cy A s.heap ad V S H locs → B_X12_tick_19 V o S Q → W p l e (rmx 5 108) s m args below meth c H locs 0 0 (qm below D cy ad V A args s (qV Q)) (F0 m 19 ls []) := by
    intro S H locs ls hl G h
    unfold B_X12_tick_19 at h
    refine gx_aload_n C hl dX12_tick_19 rfl ?_
    refine gx_dupR C dX12_tick_20 ?_
    refine gx_getI C G rfl (fX12_o hV) (fo11_6 (fX12_c hV)) uw_961 (fun _ h9 => h9) dX12_tick_21 ?_
    have r1 := G.r o 6
    refine gx_iconst C dX12_tick_24 ?_
    obtain ⟨h2, h⟩ := h
    refine gx_iadd C dX12_tick_25 ?_
    refine gx_putI C G rfl (fX12_o hV) (fo11_6 (fX12_c hV)) h2 uw_961 (fun _ h9 => h9) dX12_tick_26 (fun H locs G => ?_)
    obtain ⟨S3, eS3⟩ : ∃ q9 : Me, q9 = sI S o 6 ((S.1 o 6) + 1) := ⟨_, rfl⟩
    have h := h S3 eS3
    rw [← eS3] at G
    exact gx_vret C G hret h dX12_tick_29
  clear eA
  unfold PT_X12_tick at h
  refine gx_aload_n C hl dX12_tick_0 rfl ?_
  refine gx_callV C G hl hml (c_X12_begin l D cy ad hV h) rfl (fX12_o hV) (by rw [(fX12_c hV)]; rfl) (by rw [(fX12_c hV)]; decide) rfl uw_1177 uw_1174 uw_1176 up_19 uw_9 hd_X12_begin ⟨Nat.le_of_ble_eq_true rfl, Nat.le_of_ble_eq_true rfl⟩ ⟨Nat.zero_le _, Nat.zero_le _⟩ rfl rfl (hw_le ad [] rfl (Nat.le_of_ble_eq_true rfl)) dX12_tick_1 (kkV (fun S4 H locs h G => ?_))
  refine gx_aload_n C hl dX12_tick_4 rfl ?_
  refine gx_callV C G hl hml (c_X12_find l D cy ad hV h) rfl (fX12_o hV) (by rw [(fX12_c hV)]; rfl) (by rw [(fX12_c hV)]; decide) rfl uw_1193 uw_1190 uw_1192 up_23 uw_9 hd_X12_find ⟨Nat.le_of_ble_eq_true rfl, Nat.le_of_ble_eq_true rfl⟩ ⟨Nat.zero_le _, Nat.zero_le _⟩ rfl rfl (hw_le ad [] rfl (Nat.le_of_ble_eq_true rfl)) dX12_tick_5 (kkV (fun S5 H locs h G => ?_))
  refine gx_aload_n C hl dX12_tick_8 rfl ?_
  refine gx_getI C G rfl (fX12_o hV) (fo11_40 (fX12_c hV)) uw_995 (fun _ h9 => h9) dX12_tick_9 ?_
  have r6 := G.r o 40
  refine gx_if_lt (tgt := 19) C r6 dX12_tick_12 (by decide) (fun c7 => ?_) (fun c7 => ?_)
  · have h := h.1 c7
    exact b19 S5 H locs ls hl G h
  · have h := h.2 c7
    refine gx_aload_n C hl dX12_tick_15 rfl ?_
    refine gx_callV C G hl hml (c_X12_go l D cy ad hV h) rfl (fX12_o hV) (by rw [(fX12_c hV)]; rfl) (by rw [(fX12_c hV)]; decide) rfl uw_1255 uw_1252 uw_1254 up_37 uw_9 hd_X12_go ⟨Nat.le_of_ble_eq_true rfl, Nat.le_of_ble_eq_true rfl⟩ ⟨Nat.zero_le _, Nat.zero_le _⟩ rfl rfl (hw_le ad [] rfl (Nat.le_of_ble_eq_true rfl)) dX12_tick_16 (kkV (fun S8 H locs h G => ?_))
    exact b19 S8 H locs ls hl G h
def B_X12_run_26 (V : Vt) (o : Nat) (x1 : Int) (Q : Int → Me → Prop) : Nat → (Int → Int → Me → Prop)
  | 0 => fun _ _ _ => False
  | n + 1 => fun y2 y3 S => ((x1 ≤ y3 → (rng (y2 - (S.1 o 14))) ∧ Q (y2 - (S.1 o 14)) S) ∧ (¬ x1 ≤ y3 → PT_X12_tick V o S (fun S4 => (rng (y3 + 1)) ∧ B_X12_run_26 V o x1 Q n y2 (y3 + 1) S4)))
def PT_X12_run (V : Vt) (o : Nat) (x1 : Int) (S : Me) (Q : Int → Me → Prop) : Prop := ∀ S6 : Me, S6 = sI S o 0 0 → ((¬ (isin x1 1 500) = 0 → (∃ n9 : Nat, B_X12_run_26 V o x1 Q n9 (S6.1 o 14) 0 S6)) ∧ ((isin x1 1 500) = 0 → Q (-1) S6))
theorem hd_X12_run : yX12_run.cls ≠ "java/lang/invoke/MethodHandle" ∧ yX12_run.cls ≠ "java/lang/invoke/VarHandle" ∧ (parseMethodDescriptor yX12_run.desc).map (fun d => d.parameters.length) = some 1 := by decide +kernel
set_option maxHeartbeats 4000000 in
set_option maxRecDepth 100000 in
theorem c_X12_run (l : Launch) (D : va_G) (cy : ClassId × ClassId × ClassId × ClassId) (ad : Nat → Nat) {V : Vt} {S : Me} {o : Nat} {x1 : Int} (hV : fX12 V o) (rx1 : rng x1) {Q : Int → Me → Prop} (h : PT_X12_run V o x1 S Q) : KM l D cy yX12_run cX12_run 4 (Option.some Jvm.ClassFile.FieldType.int) 6 128 ad V S [.inr (some o), .inl x1] (qI Q) := by
  refine KM.of (by decide) rfl (Nat.le_of_ble_eq_true rfl) (own := RX12) (fun p e s m args below meth c A ls H locs eA C hret hml hmn hl G => ?_)
  have hl : lo ad ls [some (.inr (some o)), some (.inl x1), none, none] := hl
  have b26 : ∀ (n : Nat) (y2 : Int) (y3 : Int) (S : Me) (H : Heap) (locs : List Loc) (ls : Array Slot), rng y2 → rng y3 → lo ad ls [some (.inr (some o)), some (.inl x1), some (.inl y2), some (.inl y3)] → Gy D cy A s.heap ad V S H locs → B_X12_run_26 V o x1 Q n y2 y3 S → W p l e (rmx 6 128) s m args below meth c H locs 0 0 (qm below D cy ad V A args s (qI Q)) (F0 m 26 ls []) := by
    intro n
    induction n with
    | zero =>
      intro y2 y3 S H locs ls ry2 ry3 hl G h
      exact absurd h id
    | succ n ih =>
      intro y2 y3 S H locs ls ry2 ry3 hl G h
      rw [B_X12_run_26] at h
      refine gx_iload_n C hl dX12_run_26 rfl ?_
      refine gx_iload_n C hl dX12_run_27 rfl ?_
      refine gx_icmp_ge (tgt := 41) C ry3 rx1 dX12_run_28 (by decide) (fun c1 => ?_) (fun c1 => ?_)
      · have h := h.1 c1
        refine gx_iload_n C hl dX12_run_41 rfl ?_
        refine gx_aload_n C hl dX12_run_42 rfl ?_
        refine gx_getI C G rfl (fX12_o hV) (fo11_14 (fX12_c hV)) uw_969 (fun _ h9 => h9) dX12_run_43 ?_
        have r2 := G.r o 14
        obtain ⟨h3, h⟩ := h
        refine gx_isub C dX12_run_46 ?_
        exact gx_iret C G hret h3 h dX12_run_47
      · have h := h.2 c1
        refine gx_aload_n C hl dX12_run_31 rfl ?_
        refine gx_callV C G hl hml (c_X12_tick l D cy ad hV h) rfl (fX12_o hV) (by rw [(fX12_c hV)]; rfl) (by rw [(fX12_c hV)]; decide) rfl uw_1173 uw_1170 uw_1172 up_18 uw_9 hd_X12_tick ⟨Nat.le_of_ble_eq_true rfl, Nat.le_of_ble_eq_true rfl⟩ ⟨Nat.zero_le _, Nat.zero_le _⟩ rfl rfl (hw_le ad [] rfl (Nat.le_of_ble_eq_true rfl)) dX12_run_32 (kkV (fun S4 H locs h G => ?_))
        obtain ⟨h5, h⟩ := h
        refine gx_iinc C hl dX12_run_35 rfl (PL' := [some (.inr (some o)), some (.inl x1), some (.inl y2), some (.inl (y3 + 1))]) rfl (fun ls hl => ?_)
        refine gx_goto (tgt := 26) C dX12_run_38 (by decide) ?_
        exact ih y2 (y3 + 1) S4 H locs ls ry2 h5 hl G h
  clear eA
  unfold PT_X12_run at h
  refine gx_aload_n C hl dX12_run_0 rfl ?_
  refine gx_iconst C dX12_run_1 ?_
  refine gx_putI C G rfl (fX12_o hV) (fo11_0 (fX12_c hV)) (show rng 0 by decide) uw_955 (fun _ h9 => h9) dX12_run_2 (fun H locs G => ?_)
  obtain ⟨S6, eS6⟩ : ∃ q9 : Me, q9 = sI S o 0 0 := ⟨_, rfl⟩
  have h := h S6 eS6
  rw [← eS6] at G
  refine gx_iload_n C hl dX12_run_5 rfl ?_
  refine gx_i2l C rx1 dX12_run_6 ?_
  refine gx_lconst (x := 1) C (by decide) dX12_run_7 ?_
  refine gx_ldc2 (n := 500) C uw_1169 dX12_run_8 ?_
  refine gx_isIn C G hl hml rx1 (show rng 1 by decide) (show rng 500 by decide) uw_1115 ⟨Nat.le_of_ble_eq_true rfl, Nat.le_of_ble_eq_true rfl⟩ ⟨Nat.zero_le _, Nat.zero_le _⟩ (hw_le ad [] rfl (Nat.le_of_ble_eq_true rfl)) dX12_run_11 ?_
  refine gx_if_ne (tgt := 19) C (isin_r _ _ _) dX12_run_14 (by decide) (fun c7 => ?_) (fun c7 => ?_)
  · have h := h.1 c7
    refine gx_aload_n C hl dX12_run_19 rfl ?_
    refine gx_getI C G rfl (fX12_o hV) (fo11_14 (fX12_c hV)) uw_969 (fun _ h9 => h9) dX12_run_20 ?_
    have r8 := G.r o 14
    refine gx_istore_n C hl dX12_run_23 (Nat.le_of_ble_eq_true rfl) (PL' := [some (.inr (some o)), some (.inl x1), some (.inl (S6.1 o 14)), none]) rfl (fun ls hl => ?_)
    refine gx_iconst C dX12_run_24 ?_
    refine gx_istore_n C hl dX12_run_25 (Nat.le_of_ble_eq_true rfl) (PL' := [some (.inr (some o)), some (.inl x1), some (.inl (S6.1 o 14)), some (.inl 0)]) rfl (fun ls hl => ?_)
    obtain ⟨n9, h⟩ := h
    exact b26 n9 (S6.1 o 14) 0 S6 H locs ls r8 (show rng 0 by decide) hl G h
  · have h := h.2 c7
    refine gx_iconst C dX12_run_17 ?_
    exact gx_iret C G hret (show rng (-1) by decide) h dX12_run_18
def B_X12_drain_43 (V : Vt) (o : Nat) (x1 : Int) (y2 : Int) (S : Me) (Q : Int → Me → Prop) : Prop := Q y2 S
def B_X12_drain_21 (V : Vt) (o : Nat) (x1 : Int) (Q : Int → Me → Prop) : Nat → (Int → Me → Prop)
  | 0 => fun _ _ => False
  | n + 1 => fun y2 S => ((x1 ≤ y2 → B_X12_drain_43 V o x1 y2 S Q) ∧ (¬ x1 ≤ y2 → (((S.1 o 14) ≤ 0 → B_X12_drain_43 V o x1 y2 S Q) ∧ (¬ (S.1 o 14) ≤ 0 → PT_X12_tick V o S (fun S4 => (rng (y2 + 1)) ∧ B_X12_drain_21 V o x1 Q n (y2 + 1) S4)))))
def PT_X12_drain (V : Vt) (o : Nat) (x1 : Int) (S : Me) (Q : Int → Me → Prop) : Prop := ∀ S6 : Me, S6 = sI S o 0 0 → ((¬ (isin x1 1 500) = 0 → (∃ n9 : Nat, B_X12_drain_21 V o x1 Q n9 0 S6)) ∧ ((isin x1 1 500) = 0 → Q (-1) S6))
theorem hd_X12_drain : yX12_drain.cls ≠ "java/lang/invoke/MethodHandle" ∧ yX12_drain.cls ≠ "java/lang/invoke/VarHandle" ∧ (parseMethodDescriptor yX12_drain.desc).map (fun d => d.parameters.length) = some 1 := by decide +kernel
set_option maxHeartbeats 4000000 in
set_option maxRecDepth 100000 in
theorem c_X12_drain (l : Launch) (D : va_G) (cy : ClassId × ClassId × ClassId × ClassId) (ad : Nat → Nat) {V : Vt} {S : Me} {o : Nat} {x1 : Int} (hV : fX12 V o) (rx1 : rng x1) {Q : Int → Me → Prop} (h : PT_X12_drain V o x1 S Q) : KM l D cy yX12_drain cX12_drain 3 (Option.some Jvm.ClassFile.FieldType.int) 6 128 ad V S [.inr (some o), .inl x1] (qI Q) := by
  refine KM.of (by decide) rfl (Nat.le_of_ble_eq_true rfl) (own := RX12) (fun p e s m args below meth c A ls H locs eA C hret hml hmn hl G => ?_)
  have hl : lo ad ls [some (.inr (some o)), some (.inl x1), none] := hl
  have b43 : ∀ (y2 : Int) (S : Me) (H : Heap) (locs : List Loc) (ls : Array Slot), rng y2 → lo ad ls [some (.inr (some o)), some (.inl x1), some (.inl y2)] → Gy D cy A s.heap ad V S H locs → B_X12_drain_43 V o x1 y2 S Q → W p l e (rmx 6 128) s m args below meth c H locs 0 0 (qm below D cy ad V A args s (qI Q)) (F0 m 43 ls []) := by
    intro y2 S H locs ls ry2 hl G h
    unfold B_X12_drain_43 at h
    refine gx_iload_n C hl dX12_drain_43 rfl ?_
    exact gx_iret C G hret ry2 h dX12_drain_44
  have b21 : ∀ (n : Nat) (y2 : Int) (S : Me) (H : Heap) (locs : List Loc) (ls : Array Slot), rng y2 → lo ad ls [some (.inr (some o)), some (.inl x1), some (.inl y2)] → Gy D cy A s.heap ad V S H locs → B_X12_drain_21 V o x1 Q n y2 S → W p l e (rmx 6 128) s m args below meth c H locs 0 0 (qm below D cy ad V A args s (qI Q)) (F0 m 21 ls []) := by
    intro n
    induction n with
    | zero =>
      intro y2 S H locs ls ry2 hl G h
      exact absurd h id
    | succ n ih =>
      intro y2 S H locs ls ry2 hl G h
      rw [B_X12_drain_21] at h
      refine gx_iload_n C hl dX12_drain_21 rfl ?_
      refine gx_iload_n C hl dX12_drain_22 rfl ?_
      refine gx_icmp_ge (tgt := 43) C ry2 rx1 dX12_drain_23 (by decide) (fun c1 => ?_) (fun c1 => ?_)
      · have h := h.1 c1
        exact b43 y2 S H locs ls ry2 hl G h
      · have h := h.2 c1
        refine gx_aload_n C hl dX12_drain_26 rfl ?_
        refine gx_getI C G rfl (fX12_o hV) (fo11_14 (fX12_c hV)) uw_969 (fun _ h9 => h9) dX12_drain_27 ?_
        have r2 := G.r o 14
        refine gx_if_le (tgt := 43) C r2 dX12_drain_30 (by decide) (fun c3 => ?_) (fun c3 => ?_)
        · have h := h.1 c3
          exact b43 y2 S H locs ls ry2 hl G h
        · have h := h.2 c3
          refine gx_aload_n C hl dX12_drain_33 rfl ?_
          refine gx_callV C G hl hml (c_X12_tick l D cy ad hV h) rfl (fX12_o hV) (by rw [(fX12_c hV)]; rfl) (by rw [(fX12_c hV)]; decide) rfl uw_1173 uw_1170 uw_1172 up_18 uw_9 hd_X12_tick ⟨Nat.le_of_ble_eq_true rfl, Nat.le_of_ble_eq_true rfl⟩ ⟨Nat.zero_le _, Nat.zero_le _⟩ rfl rfl (hw_le ad [] rfl (Nat.le_of_ble_eq_true rfl)) dX12_drain_34 (kkV (fun S4 H locs h G => ?_))
          obtain ⟨h5, h⟩ := h
          refine gx_iinc C hl dX12_drain_37 rfl (PL' := [some (.inr (some o)), some (.inl x1), some (.inl (y2 + 1))]) rfl (fun ls hl => ?_)
          refine gx_goto (tgt := 21) C dX12_drain_40 (by decide) ?_
          exact ih (y2 + 1) S4 H locs ls h5 hl G h
  clear eA
  unfold PT_X12_drain at h
  refine gx_aload_n C hl dX12_drain_0 rfl ?_
  refine gx_iconst C dX12_drain_1 ?_
  refine gx_putI C G rfl (fX12_o hV) (fo11_0 (fX12_c hV)) (show rng 0 by decide) uw_955 (fun _ h9 => h9) dX12_drain_2 (fun H locs G => ?_)
  obtain ⟨S6, eS6⟩ : ∃ q9 : Me, q9 = sI S o 0 0 := ⟨_, rfl⟩
  have h := h S6 eS6
  rw [← eS6] at G
  refine gx_iload_n C hl dX12_drain_5 rfl ?_
  refine gx_i2l C rx1 dX12_drain_6 ?_
  refine gx_lconst (x := 1) C (by decide) dX12_drain_7 ?_
  refine gx_ldc2 (n := 500) C uw_1169 dX12_drain_8 ?_
  refine gx_isIn C G hl hml rx1 (show rng 1 by decide) (show rng 500 by decide) uw_1115 ⟨Nat.le_of_ble_eq_true rfl, Nat.le_of_ble_eq_true rfl⟩ ⟨Nat.zero_le _, Nat.zero_le _⟩ (hw_le ad [] rfl (Nat.le_of_ble_eq_true rfl)) dX12_drain_11 ?_
  refine gx_if_ne (tgt := 19) C (isin_r _ _ _) dX12_drain_14 (by decide) (fun c7 => ?_) (fun c7 => ?_)
  · have h := h.1 c7
    refine gx_iconst C dX12_drain_19 ?_
    refine gx_istore_n C hl dX12_drain_20 (Nat.le_of_ble_eq_true rfl) (PL' := [some (.inr (some o)), some (.inl x1), some (.inl 0)]) rfl (fun ls hl => ?_)
    obtain ⟨n9, h⟩ := h
    exact b21 n9 0 S6 H locs ls (show rng 0 by decide) hl G h
  · have h := h.2 c7
    refine gx_iconst C dX12_drain_17 ?_
    exact gx_iret C G hret (show rng (-1) by decide) h dX12_drain_18
def B_X12_next_53 (V : Vt) (o : Nat) (Q : Int → Me → Prop) : Nat → (Int → Int → Int → Me → Prop)
  | 0 => fun _ _ _ _ => False
  | n + 1 => fun y1 y2 y3 S => (((S.1 o 13) ≤ y3 → ∀ S3 : Me, S3 = sI S o 7 y1 → ∀ S4 : Me, S4 = sI S3 o 14 y2 → Q (S4.1 o 40) S4) ∧ (¬ (S.1 o 13) ≤ y3 → (0 ≤ y3 ∧ y3 < 400) ∧ (0 ≤ y3 ∧ y3 < 400) ∧ ∀ S9 : Me, S9 = sI S (o + 10) (Int.toNat y3) (S.1 (o + 23) (Int.toNat y3)) → (rng (y3 + 1)) ∧ B_X12_next_53 V o Q n y1 y2 (y3 + 1) S9))
def B_X12_next_17 (V : Vt) (o : Nat) (Q : Int → Me → Prop) : Nat → (Int → Int → Int → Me → Prop)
  | 0 => fun _ _ _ _ => False
  | n + 1 => fun y1 y2 y3 S => (((S.1 o 13) ≤ y3 → PT_X12_begin V o S (fun S13 => PT_X12_find V o S13 (fun S14 => (∃ n9 : Nat, B_X12_next_53 V o Q n9 y1 y2 0 S14)))) ∧ (¬ (S.1 o 13) ≤ y3 → (0 ≤ y3 ∧ y3 < 400) ∧ (0 ≤ y3 ∧ y3 < 400) ∧ ∀ S18 : Me, S18 = sI S (o + 23) (Int.toNat y3) (S.1 (o + 10) (Int.toNat y3)) → (rng (y3 + 1)) ∧ B_X12_next_17 V o Q n y1 y2 (y3 + 1) S18))
def PT_X12_next (V : Vt) (o : Nat) (S : Me) (Q : Int → Me → Prop) : Prop := ∀ S20 : Me, S20 = sI S o 0 0 → (∃ n9 : Nat, B_X12_next_17 V o Q n9 (S20.1 o 7) (S20.1 o 14) 0 S20)
theorem hd_X12_next : yX12_next.cls ≠ "java/lang/invoke/MethodHandle" ∧ yX12_next.cls ≠ "java/lang/invoke/VarHandle" ∧ (parseMethodDescriptor yX12_next.desc).map (fun d => d.parameters.length) = some 0 := by decide +kernel
set_option maxHeartbeats 4000000 in
set_option maxRecDepth 100000 in
theorem c_X12_next (l : Launch) (D : va_G) (cy : ClassId × ClassId × ClassId × ClassId) (ad : Nat → Nat) {V : Vt} {S : Me} {o : Nat} (hV : fX12 V o) {Q : Int → Me → Prop} (h : PT_X12_next V o S Q) : KM l D cy yX12_next cX12_next 4 (Option.some Jvm.ClassFile.FieldType.int) 5 108 ad V S [.inr (some o)] (qI Q) := by
  refine KM.of (by decide) rfl (Nat.le_of_ble_eq_true rfl) (own := RX12) (fun p e s m args below meth c A ls H locs eA C hret hml hmn hl G => ?_)
  have hl : lo ad ls [some (.inr (some o)), none, none, none] := hl
  have b53 : ∀ (n : Nat) (y1 : Int) (y2 : Int) (y3 : Int) (S : Me) (H : Heap) (locs : List Loc) (ls : Array Slot), rng y1 → rng y2 → rng y3 → lo ad ls [some (.inr (some o)), some (.inl y1), some (.inl y2), some (.inl y3)] → Gy D cy A s.heap ad V S H locs → B_X12_next_53 V o Q n y1 y2 y3 S → W p l e (rmx 5 108) s m args below meth c H locs 0 0 (qm below D cy ad V A args s (qI Q)) (F0 m 53 ls []) := by
    intro n
    induction n with
    | zero =>
      intro y1 y2 y3 S H locs ls ry1 ry2 ry3 hl G h
      exact absurd h id
    | succ n ih =>
      intro y1 y2 y3 S H locs ls ry1 ry2 ry3 hl G h
      rw [B_X12_next_53] at h
      refine gx_iload_n C hl dX12_next_53 rfl ?_
      refine gx_aload_n C hl dX12_next_54 rfl ?_
      refine gx_getI C G rfl (fX12_o hV) (fo11_13 (fX12_c hV)) uw_968 (fun _ h9 => h9) dX12_next_55 ?_
      have r1 := G.r o 13
      refine gx_icmp_ge (tgt := 79) C ry3 r1 dX12_next_58 (by decide) (fun c2 => ?_) (fun c2 => ?_)
      · have h := h.1 c2
        refine gx_aload_n C hl dX12_next_79 rfl ?_
        refine gx_iload_n C hl dX12_next_80 rfl ?_
        refine gx_putI C G rfl (fX12_o hV) (fo11_7 (fX12_c hV)) ry1 uw_962 (fun _ h9 => h9) dX12_next_81 (fun H locs G => ?_)
        obtain ⟨S3, eS3⟩ : ∃ q9 : Me, q9 = sI S o 7 y1 := ⟨_, rfl⟩
        have h := h S3 eS3
        rw [← eS3] at G
        refine gx_aload_n C hl dX12_next_84 rfl ?_
        refine gx_iload_n C hl dX12_next_85 rfl ?_
        refine gx_putI C G rfl (fX12_o hV) (fo11_14 (fX12_c hV)) ry2 uw_969 (fun _ h9 => h9) dX12_next_86 (fun H locs G => ?_)
        obtain ⟨S4, eS4⟩ : ∃ q9 : Me, q9 = sI S3 o 14 y2 := ⟨_, rfl⟩
        have h := h S4 eS4
        rw [← eS4] at G
        refine gx_aload_n C hl dX12_next_89 rfl ?_
        refine gx_getI C G rfl (fX12_o hV) (fo11_40 (fX12_c hV)) uw_995 (fun _ h9 => h9) dX12_next_90 ?_
        have r5 := G.r o 40
        exact gx_iret C G hret r5 h dX12_next_93
      · have h := h.2 c2
        refine gx_aload_n C hl dX12_next_61 rfl ?_
        refine gx_getF C G rfl (fX12_o hV) (fo11_21 (fX12_c hV)) (fX12_done hV) uw_976 (fun _ h9 => h9) dX12_next_62 ?_
        refine gx_iload_n C hl dX12_next_65 rfl ?_
        refine gx_aload_n C hl dX12_next_66 rfl ?_
        refine gx_getF C G rfl (fX12_o hV) (fo11_43 (fX12_c hV)) (fX12_kept hV) uw_998 (fun _ h9 => h9) dX12_next_67 ?_
        refine gx_iload_n C hl dX12_next_70 rfl ?_
        obtain ⟨h6, h⟩ := h
        refine gx_iald C G rfl (fX12_kept_l hV) (fX12_kept_t hV) ry3 h6.1 (ixl (fX12_kept_n hV) h6.2) dX12_next_71 ?_
        have r7 := G.r (o + 23) (Int.toNat y3)
        obtain ⟨h8, h⟩ := h
        refine gx_iast C G rfl (fX12_done_l hV) (fX12_done_t hV) ry3 r7 h8.1 (ixl (fX12_done_n hV) h8.2) dX12_next_72 (fun H locs G => ?_)
        obtain ⟨S9, eS9⟩ : ∃ q9 : Me, q9 = sI S (o + 10) (Int.toNat y3) (S.1 (o + 23) (Int.toNat y3)) := ⟨_, rfl⟩
        have h := h S9 eS9
        rw [← eS9] at G
        obtain ⟨h10, h⟩ := h
        refine gx_iinc C hl dX12_next_73 rfl (PL' := [some (.inr (some o)), some (.inl y1), some (.inl y2), some (.inl (y3 + 1))]) rfl (fun ls hl => ?_)
        refine gx_goto (tgt := 53) C dX12_next_76 (by decide) ?_
        exact ih y1 y2 (y3 + 1) S9 H locs ls ry1 ry2 h10 hl G h
  have b17 : ∀ (n : Nat) (y1 : Int) (y2 : Int) (y3 : Int) (S : Me) (H : Heap) (locs : List Loc) (ls : Array Slot), rng y1 → rng y2 → rng y3 → lo ad ls [some (.inr (some o)), some (.inl y1), some (.inl y2), some (.inl y3)] → Gy D cy A s.heap ad V S H locs → B_X12_next_17 V o Q n y1 y2 y3 S → W p l e (rmx 5 108) s m args below meth c H locs 0 0 (qm below D cy ad V A args s (qI Q)) (F0 m 17 ls []) := by
    intro n
    induction n with
    | zero =>
      intro y1 y2 y3 S H locs ls ry1 ry2 ry3 hl G h
      exact absurd h id
    | succ n ih =>
      intro y1 y2 y3 S H locs ls ry1 ry2 ry3 hl G h
      rw [B_X12_next_17] at h
      refine gx_iload_n C hl dX12_next_17 rfl ?_
      refine gx_aload_n C hl dX12_next_18 rfl ?_
      refine gx_getI C G rfl (fX12_o hV) (fo11_13 (fX12_c hV)) uw_968 (fun _ h9 => h9) dX12_next_19 ?_
      have r11 := G.r o 13
      refine gx_icmp_ge (tgt := 43) C ry3 r11 dX12_next_22 (by decide) (fun c12 => ?_) (fun c12 => ?_)
      · have h := h.1 c12
        refine gx_aload_n C hl dX12_next_43 rfl ?_
        refine gx_callV C G hl hml (c_X12_begin l D cy ad hV h) rfl (fX12_o hV) (by rw [(fX12_c hV)]; rfl) (by rw [(fX12_c hV)]; decide) rfl uw_1177 uw_1174 uw_1176 up_19 uw_9 hd_X12_begin ⟨Nat.le_of_ble_eq_true rfl, Nat.le_of_ble_eq_true rfl⟩ ⟨Nat.zero_le _, Nat.zero_le _⟩ rfl rfl (hw_le ad [] rfl (Nat.le_of_ble_eq_true rfl)) dX12_next_44 (kkV (fun S13 H locs h G => ?_))
        refine gx_aload_n C hl dX12_next_47 rfl ?_
        refine gx_callV C G hl hml (c_X12_find l D cy ad hV h) rfl (fX12_o hV) (by rw [(fX12_c hV)]; rfl) (by rw [(fX12_c hV)]; decide) rfl uw_1193 uw_1190 uw_1192 up_23 uw_9 hd_X12_find ⟨Nat.le_of_ble_eq_true rfl, Nat.le_of_ble_eq_true rfl⟩ ⟨Nat.zero_le _, Nat.zero_le _⟩ rfl rfl (hw_le ad [] rfl (Nat.le_of_ble_eq_true rfl)) dX12_next_48 (kkV (fun S14 H locs h G => ?_))
        refine gx_iconst C dX12_next_51 ?_
        refine gx_istore_n C hl dX12_next_52 (Nat.le_of_ble_eq_true rfl) (PL' := [some (.inr (some o)), some (.inl y1), some (.inl y2), some (.inl 0)]) rfl (fun ls hl => ?_)
        obtain ⟨n9, h⟩ := h
        exact b53 n9 y1 y2 0 S14 H locs ls ry1 ry2 (show rng 0 by decide) hl G h
      · have h := h.2 c12
        refine gx_aload_n C hl dX12_next_25 rfl ?_
        refine gx_getF C G rfl (fX12_o hV) (fo11_43 (fX12_c hV)) (fX12_kept hV) uw_998 (fun _ h9 => h9) dX12_next_26 ?_
        refine gx_iload_n C hl dX12_next_29 rfl ?_
        refine gx_aload_n C hl dX12_next_30 rfl ?_
        refine gx_getF C G rfl (fX12_o hV) (fo11_21 (fX12_c hV)) (fX12_done hV) uw_976 (fun _ h9 => h9) dX12_next_31 ?_
        refine gx_iload_n C hl dX12_next_34 rfl ?_
        obtain ⟨h15, h⟩ := h
        refine gx_iald C G rfl (fX12_done_l hV) (fX12_done_t hV) ry3 h15.1 (ixl (fX12_done_n hV) h15.2) dX12_next_35 ?_
        have r16 := G.r (o + 10) (Int.toNat y3)
        obtain ⟨h17, h⟩ := h
        refine gx_iast C G rfl (fX12_kept_l hV) (fX12_kept_t hV) ry3 r16 h17.1 (ixl (fX12_kept_n hV) h17.2) dX12_next_36 (fun H locs G => ?_)
        obtain ⟨S18, eS18⟩ : ∃ q9 : Me, q9 = sI S (o + 23) (Int.toNat y3) (S.1 (o + 10) (Int.toNat y3)) := ⟨_, rfl⟩
        have h := h S18 eS18
        rw [← eS18] at G
        obtain ⟨h19, h⟩ := h
        refine gx_iinc C hl dX12_next_37 rfl (PL' := [some (.inr (some o)), some (.inl y1), some (.inl y2), some (.inl (y3 + 1))]) rfl (fun ls hl => ?_)
        refine gx_goto (tgt := 17) C dX12_next_40 (by decide) ?_
        exact ih y1 y2 (y3 + 1) S18 H locs ls ry1 ry2 h19 hl G h
  clear eA
  unfold PT_X12_next at h
  refine gx_aload_n C hl dX12_next_0 rfl ?_
  refine gx_iconst C dX12_next_1 ?_
  refine gx_putI C G rfl (fX12_o hV) (fo11_0 (fX12_c hV)) (show rng 0 by decide) uw_955 (fun _ h9 => h9) dX12_next_2 (fun H locs G => ?_)
  obtain ⟨S20, eS20⟩ : ∃ q9 : Me, q9 = sI S o 0 0 := ⟨_, rfl⟩
  have h := h S20 eS20
  rw [← eS20] at G
  refine gx_aload_n C hl dX12_next_5 rfl ?_
  refine gx_getI C G rfl (fX12_o hV) (fo11_7 (fX12_c hV)) uw_962 (fun _ h9 => h9) dX12_next_6 ?_
  have r21 := G.r o 7
  refine gx_istore_n C hl dX12_next_9 (Nat.le_of_ble_eq_true rfl) (PL' := [some (.inr (some o)), some (.inl (S20.1 o 7)), none, none]) rfl (fun ls hl => ?_)
  refine gx_aload_n C hl dX12_next_10 rfl ?_
  refine gx_getI C G rfl (fX12_o hV) (fo11_14 (fX12_c hV)) uw_969 (fun _ h9 => h9) dX12_next_11 ?_
  have r22 := G.r o 14
  refine gx_istore_n C hl dX12_next_14 (Nat.le_of_ble_eq_true rfl) (PL' := [some (.inr (some o)), some (.inl (S20.1 o 7)), some (.inl (S20.1 o 14)), none]) rfl (fun ls hl => ?_)
  refine gx_iconst C dX12_next_15 ?_
  refine gx_istore_n C hl dX12_next_16 (Nat.le_of_ble_eq_true rfl) (PL' := [some (.inr (some o)), some (.inl (S20.1 o 7)), some (.inl (S20.1 o 14)), some (.inl 0)]) rfl (fun ls hl => ?_)
  obtain ⟨n9, h⟩ := h
  exact b17 n9 (S20.1 o 7) (S20.1 o 14) 0 S20 H locs ls r21 r22 (show rng 0 by decide) hl G h
def PT_X12_isAsk (V : Vt) (o : Nat) (x1 : Int) (S : Me) (Q : Int → Me → Prop) : Prop := ((x1 < 0 → Q 0 S) ∧ (¬ x1 < 0 → (((S.1 o 13) ≤ x1 → Q 0 S) ∧ (¬ (S.1 o 13) ≤ x1 → Q 1 S))))
theorem hd_X12_isAsk : yX12_isAsk.cls ≠ "java/lang/invoke/MethodHandle" ∧ yX12_isAsk.cls ≠ "java/lang/invoke/VarHandle" ∧ (parseMethodDescriptor yX12_isAsk.desc).map (fun d => d.parameters.length) = some 1 := by decide +kernel
set_option maxHeartbeats 4000000 in
set_option maxRecDepth 100000 in
theorem c_X12_isAsk (l : Launch) (D : va_G) (cy : ClassId × ClassId × ClassId × ClassId) (ad : Nat → Nat) {V : Vt} {S : Me} {o : Nat} {x1 : Int} (hV : fX12 V o) (rx1 : rng x1) {Q : Int → Me → Prop} (h : PT_X12_isAsk V o x1 S Q) : KM l D cy yX12_isAsk cX12_isAsk 2 (Option.some Jvm.ClassFile.FieldType.boolean) 0 0 ad V S [.inr (some o), .inl x1] (qI Q) := by
  refine KM.of (by decide) rfl (Nat.le_of_ble_eq_true rfl) (own := RX12) (fun p e s m args below meth c A ls H locs eA C hret hml hmn hl G => ?_)
  have hl : lo ad ls [some (.inr (some o)), some (.inl x1)] := hl
  clear eA
  unfold PT_X12_isAsk at h
  refine gx_iload_n C hl dX12_isAsk_0 rfl ?_
  refine gx_if_lt (tgt := 16) C rx1 dX12_isAsk_1 (by decide) (fun c1 => ?_) (fun c1 => ?_)
  · have h := h.1 c1
    refine gx_iconst C dX12_isAsk_16 ?_
    exact gx_zret C G hret (Or.inl rfl) h dX12_isAsk_17
  · have h := h.2 c1
    refine gx_iload_n C hl dX12_isAsk_4 rfl ?_
    refine gx_aload_n C hl dX12_isAsk_5 rfl ?_
    refine gx_getI C G rfl (fX12_o hV) (fo11_13 (fX12_c hV)) uw_968 (fun _ h9 => h9) dX12_isAsk_6 ?_
    have r2 := G.r o 13
    refine gx_icmp_ge (tgt := 16) C rx1 r2 dX12_isAsk_9 (by decide) (fun c3 => ?_) (fun c3 => ?_)
    · have h := h.1 c3
      refine gx_iconst C dX12_isAsk_16 ?_
      exact gx_zret C G hret (Or.inl rfl) h dX12_isAsk_17
    · have h := h.2 c3
      refine gx_iconst C dX12_isAsk_12 ?_
      refine gx_goto (tgt := 17) C dX12_isAsk_13 (by decide) ?_
      exact gx_zret C G hret (Or.inr rfl) h dX12_isAsk_17
def PT_X12_look (V : Vt) (o : Nat) (x1 : Int) (x2 : Int) (S : Me) (Q : Int → Me → Prop) : Prop := ∀ S1 : Me, S1 = sI S o 0 0 → PT_X12_isAsk V o x1 S1 (fun t3 S2 => ((t3 = 0 → Q (-1) S2) ∧ (¬ t3 = 0 → ((¬ (isin x2 0 6) = 0 → ((x2 = 0 → (0 ≤ x1 ∧ x1 < 400) ∧ Q (S2.1 (o + 4) (Int.toNat x1)) S2) ∧ (x2 = 1 → (0 ≤ x1 ∧ x1 < 400) ∧ Q (S2.1 (o + 5) (Int.toNat x1)) S2) ∧ (x2 = 2 → (0 ≤ x1 ∧ x1 < 400) ∧ Q (S2.1 (o + 6) (Int.toNat x1)) S2) ∧ (x2 = 3 → (0 ≤ x1 ∧ x1 < 400) ∧ Q (S2.1 (o + 9) (Int.toNat x1)) S2) ∧ (x2 = 4 → (0 ≤ x1 ∧ x1 < 400) ∧ Q (S2.1 (o + 10) (Int.toNat x1)) S2) ∧ (x2 = 5 → (0 ≤ x1 ∧ x1 < 400) ∧ Q (S2.1 (o + 11) (Int.toNat x1)) S2) ∧ ((x2 < 0 ∨ 5 < x2) → PT_X12_isHeld V o x1 S2 (fun t25 S24 => ((t25 = 0 → Q 0 S24) ∧ (¬ t25 = 0 → Q 1 S24)))))) ∧ ((isin x2 0 6) = 0 → Q (-1) S2)))))
theorem hd_X12_look : yX12_look.cls ≠ "java/lang/invoke/MethodHandle" ∧ yX12_look.cls ≠ "java/lang/invoke/VarHandle" ∧ (parseMethodDescriptor yX12_look.desc).map (fun d => d.parameters.length) = some 2 := by decide +kernel
set_option maxHeartbeats 4000000 in
set_option maxRecDepth 100000 in
theorem c_X12_look (l : Launch) (D : va_G) (cy : ClassId × ClassId × ClassId × ClassId) (ad : Nat → Nat) {V : Vt} {S : Me} {o : Nat} {x1 : Int} {x2 : Int} (hV : fX12 V o) (rx1 : rng x1) (rx2 : rng x2) {Q : Int → Me → Prop} (h : PT_X12_look V o x1 x2 S Q) : KM l D cy yX12_look cX12_look 3 (Option.some Jvm.ClassFile.FieldType.int) 2 46 ad V S [.inr (some o), .inl x1, .inl x2] (qI Q) := by
  refine KM.of (by decide) rfl (Nat.le_of_ble_eq_true rfl) (own := RX12) (fun p e s m args below meth c A ls H locs eA C hret hml hmn hl G => ?_)
  have hl : lo ad ls [some (.inr (some o)), some (.inl x1), some (.inl x2)] := hl
  clear eA
  unfold PT_X12_look at h
  refine gx_aload_n C hl dX12_look_0 rfl ?_
  refine gx_iconst C dX12_look_1 ?_
  refine gx_putI C G rfl (fX12_o hV) (fo11_0 (fX12_c hV)) (show rng 0 by decide) uw_955 (fun _ h9 => h9) dX12_look_2 (fun H locs G => ?_)
  obtain ⟨S1, eS1⟩ : ∃ q9 : Me, q9 = sI S o 0 0 := ⟨_, rfl⟩
  have h := h S1 eS1
  rw [← eS1] at G
  refine gx_aload_n C hl dX12_look_5 rfl ?_
  refine gx_iload_n C hl dX12_look_6 rfl ?_
  refine gx_callV C G hl hml (c_X12_isAsk l D cy ad hV rx1 h) rfl (fX12_o hV) (by rw [(fX12_c hV)]; rfl) (by rw [(fX12_c hV)]; decide) rfl uw_1279 uw_1276 uw_1278 up_40 uw_9 hd_X12_isAsk ⟨Nat.le_of_ble_eq_true rfl, Nat.le_of_ble_eq_true rfl⟩ ⟨Nat.zero_le _, Nat.zero_le _⟩ rfl rfl (hw_le ad [] rfl (Nat.le_of_ble_eq_true rfl)) dX12_look_7 (kkI (fun t3 S2 H locs rt3 h G => ?_))
  refine gx_if_eq (tgt := 25) C rt3 dX12_look_10 (by decide) (fun c4 => ?_) (fun c4 => ?_)
  · have h := h.1 c4
    refine gx_iconst C dX12_look_25 ?_
    exact gx_iret C G hret (show rng (-1) by decide) h dX12_look_26
  · have h := h.2 c4
    refine gx_iload_n C hl dX12_look_13 rfl ?_
    refine gx_i2l C rx2 dX12_look_14 ?_
    refine gx_lconst (x := 0) C (by decide) dX12_look_15 ?_
    refine gx_ldc2 (n := 6) C uw_1280 dX12_look_16 ?_
    refine gx_isIn C G hl hml rx2 (show rng 0 by decide) (show rng 6 by decide) uw_1115 ⟨Nat.le_of_ble_eq_true rfl, Nat.le_of_ble_eq_true rfl⟩ ⟨Nat.zero_le _, Nat.zero_le _⟩ (hw_le ad [] rfl (Nat.le_of_ble_eq_true rfl)) dX12_look_19 ?_
    refine gx_if_ne (tgt := 27) C (isin_r _ _ _) dX12_look_22 (by decide) (fun c5 => ?_) (fun c5 => ?_)
    · have h := h.1 c5
      refine gx_iload_n C hl dX12_look_27 rfl ?_
      by_cases c8 : x2 = 0
      · refine gx_tableIn (tgt := 68) C rx2 dX12_look_28 0 c8 (by decide) (by decide) rfl (by decide) ?_
        have h := h.1 c8
        refine gx_aload_n C hl dX12_look_68 rfl ?_
        refine gx_getF C G rfl (fX12_o hV) (fo11_15 (fX12_c hV)) (fX12_kind hV) uw_970 (fun _ h9 => h9) dX12_look_69 ?_
        refine gx_iload_n C hl dX12_look_72 rfl ?_
        obtain ⟨h6, h⟩ := h
        refine gx_iald C G rfl (fX12_kind_l hV) (fX12_kind_t hV) rx1 h6.1 (ixl (fX12_kind_n hV) h6.2) dX12_look_73 ?_
        have r7 := G.r (o + 4) (Int.toNat x1)
        exact gx_iret C G hret r7 h dX12_look_74
      · by_cases c11 : x2 = 1
        · refine gx_tableIn (tgt := 75) C rx2 dX12_look_28 1 c11 (by decide) (by decide) rfl (by decide) ?_
          have h := h.2.1 c11
          refine gx_aload_n C hl dX12_look_75 rfl ?_
          refine gx_getF C G rfl (fX12_o hV) (fo11_16 (fX12_c hV)) (fX12_asker hV) uw_971 (fun _ h9 => h9) dX12_look_76 ?_
          refine gx_iload_n C hl dX12_look_79 rfl ?_
          obtain ⟨h9, h⟩ := h
          refine gx_iald C G rfl (fX12_asker_l hV) (fX12_asker_t hV) rx1 h9.1 (ixl (fX12_asker_n hV) h9.2) dX12_look_80 ?_
          have r10 := G.r (o + 5) (Int.toNat x1)
          exact gx_iret C G hret r10 h dX12_look_81
        · by_cases c14 : x2 = 2
          · refine gx_tableIn (tgt := 82) C rx2 dX12_look_28 2 c14 (by decide) (by decide) rfl (by decide) ?_
            have h := h.2.2.1 c14
            refine gx_aload_n C hl dX12_look_82 rfl ?_
            refine gx_getF C G rfl (fX12_o hV) (fo11_17 (fX12_c hV)) (fX12_address hV) uw_972 (fun _ h9 => h9) dX12_look_83 ?_
            refine gx_iload_n C hl dX12_look_86 rfl ?_
            obtain ⟨h12, h⟩ := h
            refine gx_iald C G rfl (fX12_address_l hV) (fX12_address_t hV) rx1 h12.1 (ixl (fX12_address_n hV) h12.2) dX12_look_87 ?_
            have r13 := G.r (o + 6) (Int.toNat x1)
            exact gx_iret C G hret r13 h dX12_look_88
          · by_cases c17 : x2 = 3
            · refine gx_tableIn (tgt := 89) C rx2 dX12_look_28 3 c17 (by decide) (by decide) rfl (by decide) ?_
              have h := h.2.2.2.1 c17
              refine gx_aload_n C hl dX12_look_89 rfl ?_
              refine gx_getF C G rfl (fX12_o hV) (fo11_20 (fX12_c hV)) (fX12_came hV) uw_975 (fun _ h9 => h9) dX12_look_90 ?_
              refine gx_iload_n C hl dX12_look_93 rfl ?_
              obtain ⟨h15, h⟩ := h
              refine gx_iald C G rfl (fX12_came_l hV) (fX12_came_t hV) rx1 h15.1 (ixl (fX12_came_n hV) h15.2) dX12_look_94 ?_
              have r16 := G.r (o + 9) (Int.toNat x1)
              exact gx_iret C G hret r16 h dX12_look_95
            · by_cases c20 : x2 = 4
              · refine gx_tableIn (tgt := 96) C rx2 dX12_look_28 4 c20 (by decide) (by decide) rfl (by decide) ?_
                have h := h.2.2.2.2.1 c20
                refine gx_aload_n C hl dX12_look_96 rfl ?_
                refine gx_getF C G rfl (fX12_o hV) (fo11_21 (fX12_c hV)) (fX12_done hV) uw_976 (fun _ h9 => h9) dX12_look_97 ?_
                refine gx_iload_n C hl dX12_look_100 rfl ?_
                obtain ⟨h18, h⟩ := h
                refine gx_iald C G rfl (fX12_done_l hV) (fX12_done_t hV) rx1 h18.1 (ixl (fX12_done_n hV) h18.2) dX12_look_101 ?_
                have r19 := G.r (o + 10) (Int.toNat x1)
                exact gx_iret C G hret r19 h dX12_look_102
              · by_cases c23 : x2 = 5
                · refine gx_tableIn (tgt := 103) C rx2 dX12_look_28 5 c23 (by decide) (by decide) rfl (by decide) ?_
                  have h := h.2.2.2.2.2.1 c23
                  refine gx_aload_n C hl dX12_look_103 rfl ?_
                  refine gx_getF C G rfl (fX12_o hV) (fo11_22 (fX12_c hV)) (fX12_answer hV) uw_977 (fun _ h9 => h9) dX12_look_104 ?_
                  refine gx_iload_n C hl dX12_look_107 rfl ?_
                  obtain ⟨h21, h⟩ := h
                  refine gx_iald C G rfl (fX12_answer_l hV) (fX12_answer_t hV) rx1 h21.1 (ixl (fX12_answer_n hV) h21.2) dX12_look_108 ?_
                  have r22 := G.r (o + 11) (Int.toNat x1)
                  exact gx_iret C G hret r22 h dX12_look_109
                · have c27 : x2 < 0 ∨ 5 < x2 := by omega
                  refine gx_tableOut (tgt := 110) C rx2 dX12_look_28 c27 (by decide) ?_
                  have h := h.2.2.2.2.2.2 c27
                  refine gx_aload_n C hl dX12_look_110 rfl ?_
                  refine gx_iload_n C hl dX12_look_111 rfl ?_
                  refine gx_callV C G hl hml (c_X12_isHeld l D cy ad hV rx1 h) rfl (fX12_o hV) (by rw [(fX12_c hV)]; rfl) (by rw [(fX12_c hV)]; decide) rfl uw_1247 uw_1244 uw_1246 up_35 uw_9 hd_X12_isHeld ⟨Nat.le_of_ble_eq_true rfl, Nat.le_of_ble_eq_true rfl⟩ ⟨Nat.zero_le _, Nat.zero_le _⟩ rfl rfl (hw_le ad [] rfl (Nat.le_of_ble_eq_true rfl)) dX12_look_112 (kkI (fun t25 S24 H locs rt25 h G => ?_))
                  refine gx_if_eq (tgt := 122) C rt25 dX12_look_115 (by decide) (fun c26 => ?_) (fun c26 => ?_)
                  · have h := h.1 c26
                    refine gx_iconst C dX12_look_122 ?_
                    exact gx_iret C G hret (show rng 0 by decide) h dX12_look_123
                  · have h := h.2 c26
                    refine gx_iconst C dX12_look_118 ?_
                    refine gx_goto (tgt := 123) C dX12_look_119 (by decide) ?_
                    exact gx_iret C G hret (show rng 1 by decide) h dX12_look_123
    · have h := h.2 c5
      refine gx_iconst C dX12_look_25 ?_
      exact gx_iret C G hret (show rng (-1) by decide) h dX12_look_26
def PT_X12_at (V : Vt) (o : Nat) (x1 : Int) (S : Me) (Q : Int → Me → Prop) : Prop := ∀ S1 : Me, S1 = sI S o 0 0 → ((0 ≤ x1 → PT_X12_findOrder V o S1 (fun S3 => (((S3.1 o 39) ≤ x1 → Q (-2) S3) ∧ (¬ (S3.1 o 39) ≤ x1 → (0 ≤ x1 ∧ x1 < 12) ∧ Q (S3.1 (o + 22) (Int.toNat x1)) S3)))) ∧ (¬ 0 ≤ x1 → Q (-1) S1))
theorem hd_X12_at : yX12_at.cls ≠ "java/lang/invoke/MethodHandle" ∧ yX12_at.cls ≠ "java/lang/invoke/VarHandle" ∧ (parseMethodDescriptor yX12_at.desc).map (fun d => d.parameters.length) = some 1 := by decide +kernel
set_option maxHeartbeats 4000000 in
set_option maxRecDepth 100000 in
theorem c_X12_at (l : Launch) (D : va_G) (cy : ClassId × ClassId × ClassId × ClassId) (ad : Nat → Nat) {V : Vt} {S : Me} {o : Nat} {x1 : Int} (hV : fX12 V o) (rx1 : rng x1) {Q : Int → Me → Prop} (h : PT_X12_at V o x1 S Q) : KM l D cy yX12_at cX12_at 2 (Option.some Jvm.ClassFile.FieldType.int) 4 84 ad V S [.inr (some o), .inl x1] (qI Q) := by
  refine KM.of (by decide) rfl (Nat.le_of_ble_eq_true rfl) (own := RX12) (fun p e s m args below meth c A ls H locs eA C hret hml hmn hl G => ?_)
  have hl : lo ad ls [some (.inr (some o)), some (.inl x1)] := hl
  clear eA
  unfold PT_X12_at at h
  refine gx_aload_n C hl dX12_at_0 rfl ?_
  refine gx_iconst C dX12_at_1 ?_
  refine gx_putI C G rfl (fX12_o hV) (fo11_0 (fX12_c hV)) (show rng 0 by decide) uw_955 (fun _ h9 => h9) dX12_at_2 (fun H locs G => ?_)
  obtain ⟨S1, eS1⟩ : ∃ q9 : Me, q9 = sI S o 0 0 := ⟨_, rfl⟩
  have h := h S1 eS1
  rw [← eS1] at G
  refine gx_iload_n C hl dX12_at_5 rfl ?_
  refine gx_if_ge (tgt := 11) C rx1 dX12_at_6 (by decide) (fun c2 => ?_) (fun c2 => ?_)
  · have h := h.1 c2
    refine gx_aload_n C hl dX12_at_11 rfl ?_
    refine gx_callV C G hl hml (c_X12_findOrder l D cy ad hV h) rfl (fX12_o hV) (by rw [(fX12_c hV)]; rfl) (by rw [(fX12_c hV)]; decide) rfl uw_1225 uw_1222 uw_1224 up_31 uw_9 hd_X12_findOrder ⟨Nat.le_of_ble_eq_true rfl, Nat.le_of_ble_eq_true rfl⟩ ⟨Nat.zero_le _, Nat.zero_le _⟩ rfl rfl (hw_le ad [] rfl (Nat.le_of_ble_eq_true rfl)) dX12_at_12 (kkV (fun S3 H locs h G => ?_))
    refine gx_iload_n C hl dX12_at_15 rfl ?_
    refine gx_aload_n C hl dX12_at_16 rfl ?_
    refine gx_getI C G rfl (fX12_o hV) (fo11_39 (fX12_c hV)) uw_994 (fun _ h9 => h9) dX12_at_17 ?_
    have r4 := G.r o 39
    refine gx_icmp_ge (tgt := 32) C rx1 r4 dX12_at_20 (by decide) (fun c5 => ?_) (fun c5 => ?_)
    · have h := h.1 c5
      refine gx_bipush C dX12_at_32 (by decide) ?_
      exact gx_iret C G hret (show rng (-2) by decide) h dX12_at_34
    · have h := h.2 c5
      refine gx_aload_n C hl dX12_at_23 rfl ?_
      refine gx_getF C G rfl (fX12_o hV) (fo11_38 (fX12_c hV)) (fX12_row0 hV) uw_993 (fun _ h9 => h9) dX12_at_24 ?_
      refine gx_iload_n C hl dX12_at_27 rfl ?_
      obtain ⟨h6, h⟩ := h
      refine gx_iald C G rfl (fX12_row0_l hV) (fX12_row0_t hV) rx1 h6.1 (ixl (fX12_row0_n hV) h6.2) dX12_at_28 ?_
      have r7 := G.r (o + 22) (Int.toNat x1)
      refine gx_goto (tgt := 34) C dX12_at_29 (by decide) ?_
      exact gx_iret C G hret r7 h dX12_at_34
  · have h := h.2 c2
    refine gx_iconst C dX12_at_9 ?_
    exact gx_iret C G hret (show rng (-1) by decide) h dX12_at_10
def B_X12_soonest_66 (V : Vt) (o : Nat) (x1 : Int) (x2 : Int) (K53 : Int → Me → Prop) (y3 : Int) (w0 : Option Nat) (w1 : Int) (w2 : Int) (S : Me) (Q : Int → Me → Prop) : Prop := ∃ z3 : Nat, w0 = some z3 ∧ fX12 V z3 ∧ PT_X12_fits V z3 w1 w2 y3 S (fun t2 S1 => ((¬ t2 = 0 → Q y3 S1) ∧ (t2 = 0 → (rng (y3 + 1)) ∧ K53 (y3 + 1) S1)))
def B_X12_soonest_53 (V : Vt) (o : Nat) (x1 : Int) (x2 : Int) (Q : Int → Me → Prop) : Nat → (Int → Me → Prop)
  | 0 => fun _ _ => False
  | n + 1 => fun y3 S => ((¬ x1 = 4 → B_X12_soonest_66 V o x1 x2 (B_X12_soonest_53 V o x1 x2 Q n) y3 (some o) x1 x2 S Q) ∧ (x1 = 4 → B_X12_soonest_66 V o x1 x2 (B_X12_soonest_53 V o x1 x2 Q n) y3 (some o) x1 (-2) S Q))
def B_X12_soonest_36 (V : Vt) (o : Nat) (x1 : Int) (x2 : Int) (S : Me) (Q : Int → Me → Prop) : Prop := PT_X12_stands V o x1 x2 S (fun t8 S7 => ((¬ t8 = 0 → (∃ n9 : Nat, B_X12_soonest_53 V o x1 x2 Q n9 (S7.1 o 6) S7)) ∧ (t8 = 0 → Q (-2) S7)))
def PT_X12_soonest (V : Vt) (o : Nat) (x1 : Int) (x2 : Int) (S : Me) (Q : Int → Me → Prop) : Prop := ∀ S11 : Me, S11 = sI S o 0 0 → (((isin x1 0 4) = 0 → Q (-1) S11) ∧ (¬ (isin x1 0 4) = 0 → ((4 ≤ x1 → B_X12_soonest_36 V o x1 x2 S11 Q) ∧ (¬ 4 ≤ x1 → ((¬ (isin x2 0 3) = 0 → B_X12_soonest_36 V o x1 x2 S11 Q) ∧ ((isin x2 0 3) = 0 → Q (-1) S11))))))
theorem hd_X12_soonest : yX12_soonest.cls ≠ "java/lang/invoke/MethodHandle" ∧ yX12_soonest.cls ≠ "java/lang/invoke/VarHandle" ∧ (parseMethodDescriptor yX12_soonest.desc).map (fun d => d.parameters.length) = some 2 := by decide +kernel
set_option maxHeartbeats 4000000 in
set_option maxRecDepth 100000 in
theorem c_X12_soonest (l : Launch) (D : va_G) (cy : ClassId × ClassId × ClassId × ClassId) (ad : Nat → Nat) {V : Vt} {S : Me} {o : Nat} {x1 : Int} {x2 : Int} (hV : fX12 V o) (rx1 : rng x1) (rx2 : rng x2) {Q : Int → Me → Prop} (h : PT_X12_soonest V o x1 x2 S Q) : KM l D cy yX12_soonest cX12_soonest 4 (Option.some Jvm.ClassFile.FieldType.int) 2 58 ad V S [.inr (some o), .inl x1, .inl x2] (qI Q) := by
  refine KM.of (by decide) rfl (Nat.le_of_ble_eq_true rfl) (own := RX12) (fun p e s m args below meth c A ls H locs eA C hret hml hmn hl G => ?_)
  have hl : lo ad ls [some (.inr (some o)), some (.inl x1), some (.inl x2), none] := hl
  have b66 : ∀ (K53 : Int → Me → Prop) (hK53 : ∀ (y3 : Int) (S : Me) (H : Heap) (locs : List Loc) (ls : Array Slot), rng y3 → lo ad ls [some (.inr (some o)), some (.inl x1), some (.inl x2), some (.inl y3)] → Gy D cy A s.heap ad V S H locs → K53 y3 S → W p l e (rmx 2 58) s m args below meth c H locs 0 0 (qm below D cy ad V A args s (qI Q)) (F0 m 53 ls [])) (y3 : Int) (w0 : Option Nat) (w1 : Int) (w2 : Int) (S : Me) (H : Heap) (locs : List Loc) (ls : Array Slot), rng y3 → (∀ z, w0 = some z → z < V.1) → rng w1 → rng w2 → lo ad ls [some (.inr (some o)), some (.inl x1), some (.inl x2), some (.inl y3)] → Gy D cy A s.heap ad V S H locs → B_X12_soonest_66 V o x1 x2 K53 y3 w0 w1 w2 S Q → W p l e (rmx 2 58) s m args below meth c H locs 0 0 (qm below D cy ad V A args s (qI Q)) (F0 m 66 ls [vI w2, vI w1, vR ad w0]) := by
    intro K53 hK53 y3 w0 w1 w2 S H locs ls ry3 vw0 rw1 rw2 hl G h
    unfold B_X12_soonest_66 at h
    refine gx_iload_n C hl dX12_soonest_66 rfl ?_
    obtain ⟨z3, hz3, tz3, h⟩ := h
    have lz3 := (vw0 z3 hz3)
    refine gx_callV C G hl hml (c_X12_fits l D cy ad tz3 rw1 rw2 ry3 h) hz3 lz3 (by rw [(fX12_c tz3)]; rfl) (by rw [(fX12_c tz3)]; decide) rfl uw_1217 uw_1214 uw_1216 up_29 uw_9 hd_X12_fits ⟨Nat.le_of_ble_eq_true rfl, Nat.le_of_ble_eq_true rfl⟩ ⟨Nat.zero_le _, Nat.zero_le _⟩ rfl rfl (hw_le ad [] rfl (Nat.le_of_ble_eq_true rfl)) dX12_soonest_67 (kkI (fun t2 S1 H locs rt2 h G => ?_))
    refine gx_if_ne (tgt := 79) C rt2 dX12_soonest_70 (by decide) (fun c4 => ?_) (fun c4 => ?_)
    · have h := h.1 c4
      refine gx_iload_n C hl dX12_soonest_79 rfl ?_
      exact gx_iret C G hret ry3 h dX12_soonest_80
    · have h := h.2 c4
      obtain ⟨h5, h⟩ := h
      refine gx_iinc C hl dX12_soonest_73 rfl (PL' := [some (.inr (some o)), some (.inl x1), some (.inl x2), some (.inl (y3 + 1))]) rfl (fun ls hl => ?_)
      refine gx_goto (tgt := 53) C dX12_soonest_76 (by decide) ?_
      exact hK53 (y3 + 1) S1 H locs ls h5 hl G h
  have b53 : ∀ (n : Nat) (y3 : Int) (S : Me) (H : Heap) (locs : List Loc) (ls : Array Slot), rng y3 → lo ad ls [some (.inr (some o)), some (.inl x1), some (.inl x2), some (.inl y3)] → Gy D cy A s.heap ad V S H locs → B_X12_soonest_53 V o x1 x2 Q n y3 S → W p l e (rmx 2 58) s m args below meth c H locs 0 0 (qm below D cy ad V A args s (qI Q)) (F0 m 53 ls []) := by
    intro n
    induction n with
    | zero =>
      intro y3 S H locs ls ry3 hl G h
      exact absurd h id
    | succ n ih =>
      intro y3 S H locs ls ry3 hl G h
      rw [B_X12_soonest_53] at h
      refine gx_aload_n C hl dX12_soonest_53 rfl ?_
      refine gx_iload_n C hl dX12_soonest_54 rfl ?_
      refine gx_iload_n C hl dX12_soonest_55 rfl ?_
      refine gx_iconst C dX12_soonest_56 ?_
      refine gx_icmp_ne (tgt := 65) C rx1 (show rng 4 by decide) dX12_soonest_57 (by decide) (fun c6 => ?_) (fun c6 => ?_)
      · have h := h.1 c6
        refine gx_iload_n C hl dX12_soonest_65 rfl ?_
        exact b66 (B_X12_soonest_53 V o x1 x2 Q n) ih y3 (some o) x1 x2 S H locs ls ry3 (vsome (fX12_o hV)) rx1 rx2 hl G h
      · have h := h.2 c6
        refine gx_bipush C dX12_soonest_60 (by decide) ?_
        refine gx_goto (tgt := 66) C dX12_soonest_62 (by decide) ?_
        exact b66 (B_X12_soonest_53 V o x1 x2 Q n) ih y3 (some o) x1 (-2) S H locs ls ry3 (vsome (fX12_o hV)) rx1 (show rng (-2) by decide) hl G h
  have b36 : ∀ (S : Me) (H : Heap) (locs : List Loc) (ls : Array Slot), lo ad ls [some (.inr (some o)), some (.inl x1), some (.inl x2), none] → Gy D cy A s.heap ad V S H locs → B_X12_soonest_36 V o x1 x2 S Q → W p l e (rmx 2 58) s m args below meth c H locs 0 0 (qm below D cy ad V A args s (qI Q)) (F0 m 36 ls []) := by
    intro S H locs ls hl G h
    unfold B_X12_soonest_36 at h
    refine gx_aload_n C hl dX12_soonest_36 rfl ?_
    refine gx_iload_n C hl dX12_soonest_37 rfl ?_
    refine gx_iload_n C hl dX12_soonest_38 rfl ?_
    refine gx_callV C G hl hml (c_X12_stands l D cy ad hV rx1 rx2 h) rfl (fX12_o hV) (by rw [(fX12_c hV)]; rfl) (by rw [(fX12_c hV)]; decide) rfl uw_1209 uw_1206 uw_1208 up_27 uw_9 hd_X12_stands ⟨Nat.le_of_ble_eq_true rfl, Nat.le_of_ble_eq_true rfl⟩ ⟨Nat.zero_le _, Nat.zero_le _⟩ rfl rfl (hw_le ad [] rfl (Nat.le_of_ble_eq_true rfl)) dX12_soonest_39 (kkI (fun t8 S7 H locs rt8 h G => ?_))
    refine gx_if_ne (tgt := 48) C rt8 dX12_soonest_42 (by decide) (fun c9 => ?_) (fun c9 => ?_)
    · have h := h.1 c9
      refine gx_aload_n C hl dX12_soonest_48 rfl ?_
      refine gx_getI C G rfl (fX12_o hV) (fo11_6 (fX12_c hV)) uw_961 (fun _ h9 => h9) dX12_soonest_49 ?_
      have r10 := G.r o 6
      refine gx_istore_n C hl dX12_soonest_52 (Nat.le_of_ble_eq_true rfl) (PL' := [some (.inr (some o)), some (.inl x1), some (.inl x2), some (.inl (S7.1 o 6))]) rfl (fun ls hl => ?_)
      obtain ⟨n9, h⟩ := h
      exact b53 n9 (S7.1 o 6) S7 H locs ls r10 hl G h
    · have h := h.2 c9
      refine gx_bipush C dX12_soonest_45 (by decide) ?_
      exact gx_iret C G hret (show rng (-2) by decide) h dX12_soonest_47
  clear eA
  unfold PT_X12_soonest at h
  refine gx_aload_n C hl dX12_soonest_0 rfl ?_
  refine gx_iconst C dX12_soonest_1 ?_
  refine gx_putI C G rfl (fX12_o hV) (fo11_0 (fX12_c hV)) (show rng 0 by decide) uw_955 (fun _ h9 => h9) dX12_soonest_2 (fun H locs G => ?_)
  obtain ⟨S11, eS11⟩ : ∃ q9 : Me, q9 = sI S o 0 0 := ⟨_, rfl⟩
  have h := h S11 eS11
  rw [← eS11] at G
  refine gx_iload_n C hl dX12_soonest_5 rfl ?_
  refine gx_i2l C rx1 dX12_soonest_6 ?_
  refine gx_lconst (x := 0) C (by decide) dX12_soonest_7 ?_
  refine gx_ldc2 (n := 4) C uw_1289 dX12_soonest_8 ?_
  refine gx_isIn C G hl hml rx1 (show rng 0 by decide) (show rng 4 by decide) uw_1115 ⟨Nat.le_of_ble_eq_true rfl, Nat.le_of_ble_eq_true rfl⟩ ⟨Nat.zero_le _, Nat.zero_le _⟩ (hw_le ad [] rfl (Nat.le_of_ble_eq_true rfl)) dX12_soonest_11 ?_
  refine gx_if_eq (tgt := 34) C (isin_r _ _ _) dX12_soonest_14 (by decide) (fun c12 => ?_) (fun c12 => ?_)
  · have h := h.1 c12
    refine gx_iconst C dX12_soonest_34 ?_
    exact gx_iret C G hret (show rng (-1) by decide) h dX12_soonest_35
  · have h := h.2 c12
    refine gx_iload_n C hl dX12_soonest_17 rfl ?_
    refine gx_iconst C dX12_soonest_18 ?_
    refine gx_icmp_ge (tgt := 36) C rx1 (show rng 4 by decide) dX12_soonest_19 (by decide) (fun c13 => ?_) (fun c13 => ?_)
    · have h := h.1 c13
      exact b36 S11 H locs ls hl G h
    · have h := h.2 c13
      refine gx_iload_n C hl dX12_soonest_22 rfl ?_
      refine gx_i2l C rx2 dX12_soonest_23 ?_
      refine gx_lconst (x := 0) C (by decide) dX12_soonest_24 ?_
      refine gx_ldc2 (n := 3) C uw_1138 dX12_soonest_25 ?_
      refine gx_isIn C G hl hml rx2 (show rng 0 by decide) (show rng 3 by decide) uw_1115 ⟨Nat.le_of_ble_eq_true rfl, Nat.le_of_ble_eq_true rfl⟩ ⟨Nat.zero_le _, Nat.zero_le _⟩ (hw_le ad [] rfl (Nat.le_of_ble_eq_true rfl)) dX12_soonest_28 ?_
      refine gx_if_ne (tgt := 36) C (isin_r _ _ _) dX12_soonest_31 (by decide) (fun c14 => ?_) (fun c14 => ?_)
      · have h := h.1 c14
        exact b36 S11 H locs ls hl G h
      · have h := h.2 c14
        refine gx_iconst C dX12_soonest_34 ?_
        exact gx_iret C G hret (show rng (-1) by decide) h dX12_soonest_35
def PT_X12_row (V : Vt) (o : Nat) (x1 : Int) (S : Me) (Q : Int → Me → Prop) : Prop := ∀ S1 : Me, S1 = sI S o 0 0 → (((isin x1 0 3) = 0 → Q (-1) S1) ∧ (¬ (isin x1 0 3) = 0 → (0 ≤ x1 ∧ x1 < 4) ∧ Q (S1.1 (o + 2) (Int.toNat x1)) S1))
theorem hd_X12_row : yX12_row.cls ≠ "java/lang/invoke/MethodHandle" ∧ yX12_row.cls ≠ "java/lang/invoke/VarHandle" ∧ (parseMethodDescriptor yX12_row.desc).map (fun d => d.parameters.length) = some 1 := by decide +kernel
set_option maxHeartbeats 4000000 in
set_option maxRecDepth 100000 in
theorem c_X12_row (l : Launch) (D : va_G) (cy : ClassId × ClassId × ClassId × ClassId) (ad : Nat → Nat) {V : Vt} {S : Me} {o : Nat} {x1 : Int} (hV : fX12 V o) (rx1 : rng x1) {Q : Int → Me → Prop} (h : PT_X12_row V o x1 S Q) : KM l D cy yX12_row cX12_row 2 (Option.some Jvm.ClassFile.FieldType.int) 1 25 ad V S [.inr (some o), .inl x1] (qI Q) := by
  refine KM.of (by decide) rfl (Nat.le_of_ble_eq_true rfl) (own := RX12) (fun p e s m args below meth c A ls H locs eA C hret hml hmn hl G => ?_)
  have hl : lo ad ls [some (.inr (some o)), some (.inl x1)] := hl
  clear eA
  unfold PT_X12_row at h
  refine gx_aload_n C hl dX12_row_0 rfl ?_
  refine gx_iconst C dX12_row_1 ?_
  refine gx_putI C G rfl (fX12_o hV) (fo11_0 (fX12_c hV)) (show rng 0 by decide) uw_955 (fun _ h9 => h9) dX12_row_2 (fun H locs G => ?_)
  obtain ⟨S1, eS1⟩ : ∃ q9 : Me, q9 = sI S o 0 0 := ⟨_, rfl⟩
  have h := h S1 eS1
  rw [← eS1] at G
  refine gx_iload_n C hl dX12_row_5 rfl ?_
  refine gx_i2l C rx1 dX12_row_6 ?_
  refine gx_lconst (x := 0) C (by decide) dX12_row_7 ?_
  refine gx_ldc2 (n := 3) C uw_1138 dX12_row_8 ?_
  refine gx_isIn C G hl hml rx1 (show rng 0 by decide) (show rng 3 by decide) uw_1115 ⟨Nat.le_of_ble_eq_true rfl, Nat.le_of_ble_eq_true rfl⟩ ⟨Nat.zero_le _, Nat.zero_le _⟩ (hw_le ad [] rfl (Nat.le_of_ble_eq_true rfl)) dX12_row_11 ?_
  refine gx_if_eq (tgt := 26) C (isin_r _ _ _) dX12_row_14 (by decide) (fun c2 => ?_) (fun c2 => ?_)
  · have h := h.1 c2
    refine gx_iconst C dX12_row_26 ?_
    exact gx_iret C G hret (show rng (-1) by decide) h dX12_row_27
  · have h := h.2 c2
    refine gx_aload_n C hl dX12_row_17 rfl ?_
    refine gx_getF C G rfl (fX12_o hV) (fo11_11 (fX12_c hV)) (fX12_row hV) uw_966 (fun _ h9 => h9) dX12_row_18 ?_
    refine gx_iload_n C hl dX12_row_21 rfl ?_
    obtain ⟨h3, h⟩ := h
    refine gx_iald C G rfl (fX12_row_l hV) (fX12_row_t hV) rx1 h3.1 (ixl (fX12_row_n hV) h3.2) dX12_row_22 ?_
    have r4 := G.r (o + 2) (Int.toNat x1)
    refine gx_goto (tgt := 27) C dX12_row_23 (by decide) ?_
    exact gx_iret C G hret r4 h dX12_row_27
def PT_X12_octet (V : Vt) (o : Nat) (x1 : Int) (S : Me) (Q : Int → Me → Prop) : Prop := ∀ S1 : Me, S1 = sI S o 0 0 → (((isin x1 0 1023) = 0 → Q (-1) S1) ∧ (¬ (isin x1 0 1023) = 0 → (0 ≤ x1 ∧ x1 < 1024) ∧ Q (S1.1 (o + 3) (Int.toNat x1)) S1))
theorem hd_X12_octet : yX12_octet.cls ≠ "java/lang/invoke/MethodHandle" ∧ yX12_octet.cls ≠ "java/lang/invoke/VarHandle" ∧ (parseMethodDescriptor yX12_octet.desc).map (fun d => d.parameters.length) = some 1 := by decide +kernel
set_option maxHeartbeats 4000000 in
set_option maxRecDepth 100000 in
theorem c_X12_octet (l : Launch) (D : va_G) (cy : ClassId × ClassId × ClassId × ClassId) (ad : Nat → Nat) {V : Vt} {S : Me} {o : Nat} {x1 : Int} (hV : fX12 V o) (rx1 : rng x1) {Q : Int → Me → Prop} (h : PT_X12_octet V o x1 S Q) : KM l D cy yX12_octet cX12_octet 2 (Option.some Jvm.ClassFile.FieldType.int) 1 25 ad V S [.inr (some o), .inl x1] (qI Q) := by
  refine KM.of (by decide) rfl (Nat.le_of_ble_eq_true rfl) (own := RX12) (fun p e s m args below meth c A ls H locs eA C hret hml hmn hl G => ?_)
  have hl : lo ad ls [some (.inr (some o)), some (.inl x1)] := hl
  clear eA
  unfold PT_X12_octet at h
  refine gx_aload_n C hl dX12_octet_0 rfl ?_
  refine gx_iconst C dX12_octet_1 ?_
  refine gx_putI C G rfl (fX12_o hV) (fo11_0 (fX12_c hV)) (show rng 0 by decide) uw_955 (fun _ h9 => h9) dX12_octet_2 (fun H locs G => ?_)
  obtain ⟨S1, eS1⟩ : ∃ q9 : Me, q9 = sI S o 0 0 := ⟨_, rfl⟩
  have h := h S1 eS1
  rw [← eS1] at G
  refine gx_iload_n C hl dX12_octet_5 rfl ?_
  refine gx_i2l C rx1 dX12_octet_6 ?_
  refine gx_lconst (x := 0) C (by decide) dX12_octet_7 ?_
  refine gx_ldc2 (n := 1023) C uw_1139 dX12_octet_8 ?_
  refine gx_isIn C G hl hml rx1 (show rng 0 by decide) (show rng 1023 by decide) uw_1115 ⟨Nat.le_of_ble_eq_true rfl, Nat.le_of_ble_eq_true rfl⟩ ⟨Nat.zero_le _, Nat.zero_le _⟩ (hw_le ad [] rfl (Nat.le_of_ble_eq_true rfl)) dX12_octet_11 ?_
  refine gx_if_eq (tgt := 26) C (isin_r _ _ _) dX12_octet_14 (by decide) (fun c2 => ?_) (fun c2 => ?_)
  · have h := h.1 c2
    refine gx_iconst C dX12_octet_26 ?_
    exact gx_iret C G hret (show rng (-1) by decide) h dX12_octet_27
  · have h := h.2 c2
    refine gx_aload_n C hl dX12_octet_17 rfl ?_
    refine gx_getF C G rfl (fX12_o hV) (fo11_12 (fX12_c hV)) (fX12_memory hV) uw_967 (fun _ h9 => h9) dX12_octet_18 ?_
    refine gx_iload_n C hl dX12_octet_21 rfl ?_
    obtain ⟨h3, h⟩ := h
    refine gx_iald C G rfl (fX12_memory_l hV) (fX12_memory_t hV) rx1 h3.1 (ixl (fX12_memory_n hV) h3.2) dX12_octet_22 ?_
    have r4 := G.r (o + 3) (Int.toNat x1)
    refine gx_goto (tgt := 27) C dX12_octet_23 (by decide) ?_
    exact gx_iret C G hret r4 h dX12_octet_27
