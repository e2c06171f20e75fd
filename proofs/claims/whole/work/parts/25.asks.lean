theorem df_0 (ad : Nat → Nat) : ∀ j, j < 9 → defaultValue (tyX1 j) = vp_V ((fl 0).map (fv ad (fun _ => 0) (fun _ => none) (fun _ => none))) j := fun j hj => match j, hj with
  | 0, _ => rfl
  | 1, _ => rfl
  | 2, _ => rfl
  | 3, _ => rfl
  | 4, _ => rfl
  | 5, _ => rfl
  | 6, _ => rfl
  | 7, _ => rfl
  | 8, _ => rfl
  | k + 9, h => absurd h (by omega)
theorem df_1 (ad : Nat → Nat) : ∀ j, j < 11 → defaultValue (tyX2 j) = vp_V ((fl 1).map (fv ad (fun _ => 0) (fun _ => none) (fun _ => none))) j := fun j hj => match j, hj with
  | 0, _ => rfl
  | 1, _ => rfl
  | 2, _ => rfl
  | 3, _ => rfl
  | 4, _ => rfl
  | 5, _ => rfl
  | 6, _ => rfl
  | 7, _ => rfl
  | 8, _ => rfl
  | 9, _ => rfl
  | 10, _ => rfl
  | k + 11, h => absurd h (by omega)
theorem df_2 (ad : Nat → Nat) : ∀ j, j < 13 → defaultValue (tyX3 j) = vp_V ((fl 2).map (fv ad (fun _ => 0) (fun _ => none) (fun _ => none))) j := fun j hj => match j, hj with
  | 0, _ => rfl
  | 1, _ => rfl
  | 2, _ => rfl
  | 3, _ => rfl
  | 4, _ => rfl
  | 5, _ => rfl
  | 6, _ => rfl
  | 7, _ => rfl
  | 8, _ => rfl
  | 9, _ => rfl
  | 10, _ => rfl
  | 11, _ => rfl
  | 12, _ => rfl
  | k + 13, h => absurd h (by omega)
theorem df_3 (ad : Nat → Nat) : ∀ j, j < 2 → defaultValue (tyX4 j) = vp_V ((fl 3).map (fv ad (fun _ => 0) (fun _ => none) (fun _ => none))) j := fun j hj => match j, hj with
  | 0, _ => rfl
  | 1, _ => rfl
  | k + 2, h => absurd h (by omega)
theorem df_4 (ad : Nat → Nat) : ∀ j, j < 12 → defaultValue (tyX5 j) = vp_V ((fl 4).map (fv ad (fun _ => 0) (fun _ => none) (fun _ => none))) j := fun j hj => match j, hj with
  | 0, _ => rfl
  | 1, _ => rfl
  | 2, _ => rfl
  | 3, _ => rfl
  | 4, _ => rfl
  | 5, _ => rfl
  | 6, _ => rfl
  | 7, _ => rfl
  | 8, _ => rfl
  | 9, _ => rfl
  | 10, _ => rfl
  | 11, _ => rfl
  | k + 12, h => absurd h (by omega)
theorem df_5 (ad : Nat → Nat) : ∀ j, j < 11 → defaultValue (tyX6 j) = vp_V ((fl 5).map (fv ad (fun _ => 0) (fun _ => none) (fun _ => none))) j := fun j hj => match j, hj with
  | 0, _ => rfl
  | 1, _ => rfl
  | 2, _ => rfl
  | 3, _ => rfl
  | 4, _ => rfl
  | 5, _ => rfl
  | 6, _ => rfl
  | 7, _ => rfl
  | 8, _ => rfl
  | 9, _ => rfl
  | 10, _ => rfl
  | k + 11, h => absurd h (by omega)
theorem df_6 (ad : Nat → Nat) : ∀ j, j < 11 → defaultValue (tyX7 j) = vp_V ((fl 6).map (fv ad (fun _ => 0) (fun _ => none) (fun _ => none))) j := fun j hj => match j, hj with
  | 0, _ => rfl
  | 1, _ => rfl
  | 2, _ => rfl
  | 3, _ => rfl
  | 4, _ => rfl
  | 5, _ => rfl
  | 6, _ => rfl
  | 7, _ => rfl
  | 8, _ => rfl
  | 9, _ => rfl
  | 10, _ => rfl
  | k + 11, h => absurd h (by omega)
theorem df_7 (ad : Nat → Nat) : ∀ j, j < 3 → defaultValue (tyX8 j) = vp_V ((fl 7).map (fv ad (fun _ => 0) (fun _ => none) (fun _ => none))) j := fun j hj => match j, hj with
  | 0, _ => rfl
  | 1, _ => rfl
  | 2, _ => rfl
  | k + 3, h => absurd h (by omega)
theorem df_8 (ad : Nat → Nat) : ∀ j, j < 12 → defaultValue (tyX9 j) = vp_V ((fl 8).map (fv ad (fun _ => 0) (fun _ => none) (fun _ => none))) j := fun j hj => match j, hj with
  | 0, _ => rfl
  | 1, _ => rfl
  | 2, _ => rfl
  | 3, _ => rfl
  | 4, _ => rfl
  | 5, _ => rfl
  | 6, _ => rfl
  | 7, _ => rfl
  | 8, _ => rfl
  | 9, _ => rfl
  | 10, _ => rfl
  | 11, _ => rfl
  | k + 12, h => absurd h (by omega)
theorem df_9 (ad : Nat → Nat) : ∀ j, j < 12 → defaultValue (tyX10 j) = vp_V ((fl 9).map (fv ad (fun _ => 0) (fun _ => none) (fun _ => none))) j := fun j hj => match j, hj with
  | 0, _ => rfl
  | 1, _ => rfl
  | 2, _ => rfl
  | 3, _ => rfl
  | 4, _ => rfl
  | 5, _ => rfl
  | 6, _ => rfl
  | 7, _ => rfl
  | 8, _ => rfl
  | 9, _ => rfl
  | 10, _ => rfl
  | 11, _ => rfl
  | k + 12, h => absurd h (by omega)
theorem df_10 (ad : Nat → Nat) : ∀ j, j < 16 → defaultValue (tyX11 j) = vp_V ((fl 10).map (fv ad (fun _ => 0) (fun _ => none) (fun _ => none))) j := fun j hj => match j, hj with
  | 0, _ => rfl
  | 1, _ => rfl
  | 2, _ => rfl
  | 3, _ => rfl
  | 4, _ => rfl
  | 5, _ => rfl
  | 6, _ => rfl
  | 7, _ => rfl
  | 8, _ => rfl
  | 9, _ => rfl
  | 10, _ => rfl
  | 11, _ => rfl
  | 12, _ => rfl
  | 13, _ => rfl
  | 14, _ => rfl
  | 15, _ => rfl
  | k + 16, h => absurd h (by omega)
theorem df_11 (ad : Nat → Nat) : ∀ j, j < 50 → defaultValue (tyX12 j) = vp_V ((fl 11).map (fv ad (fun _ => 0) (fun _ => none) (fun _ => none))) j := fun j hj => match j, hj with
  | 0, _ => rfl
  | 1, _ => rfl
  | 2, _ => rfl
  | 3, _ => rfl
  | 4, _ => rfl
  | 5, _ => rfl
  | 6, _ => rfl
  | 7, _ => rfl
  | 8, _ => rfl
  | 9, _ => rfl
  | 10, _ => rfl
  | 11, _ => rfl
  | 12, _ => rfl
  | 13, _ => rfl
  | 14, _ => rfl
  | 15, _ => rfl
  | 16, _ => rfl
  | 17, _ => rfl
  | 18, _ => rfl
  | 19, _ => rfl
  | 20, _ => rfl
  | 21, _ => rfl
  | 22, _ => rfl
  | 23, _ => rfl
  | 24, _ => rfl
  | 25, _ => rfl
  | 26, _ => rfl
  | 27, _ => rfl
  | 28, _ => rfl
  | 29, _ => rfl
  | 30, _ => rfl
  | 31, _ => rfl
  | 32, _ => rfl
  | 33, _ => rfl
  | 34, _ => rfl
  | 35, _ => rfl
  | 36, _ => rfl
  | 37, _ => rfl
  | 38, _ => rfl
  | 39, _ => rfl
  | 40, _ => rfl
  | 41, _ => rfl
  | 42, _ => rfl
  | 43, _ => rfl
  | 44, _ => rfl
  | 45, _ => rfl
  | 46, _ => rfl
  | 47, _ => rfl
  | 48, _ => rfl
  | 49, _ => rfl
  | k + 50, h => absurd h (by omega)
def PT_X0_init (V : Vt) (o : Nat) (x1 : Int) (x2 : Int) (x3 : Int) (x4 : Int) (S : Me) (Q : Me → Prop) : Prop := ∀ S1 : Me, S1 = sI S o 6 0 → ∀ S2 : Me, S2 = sI S1 o 7 (-2) → ∀ S3 : Me, S3 = sP S2 o 8 none → ∀ S4 : Me, S4 = sP S3 o 9 none → ∀ S5 : Me, S5 = sI S4 o 10 0 → ∀ S6 : Me, S6 = sI S5 o 0 x1 → ∀ S7 : Me, S7 = sI S6 o 1 x2 → ∀ S8 : Me, S8 = sI S7 o 2 x3 → PT_X4_bankOf V x3 S8 (fun t10 S9 => ∀ S11 : Me, S11 = sI S9 o 3 t10 → PT_X4_rowOf V x3 S11 (fun t13 S12 => ∀ S14 : Me, S14 = sI S12 o 4 t13 → ∀ S15 : Me, S15 = sI S14 o 5 x4 → Q S15))
theorem hd_X0_init : yX0_init.cls ≠ "java/lang/invoke/MethodHandle" ∧ yX0_init.cls ≠ "java/lang/invoke/VarHandle" ∧ (parseMethodDescriptor yX0_init.desc).map (fun d => d.parameters.length) = some 4 := by decide +kernel
set_option maxHeartbeats 4000000 in
set_option maxRecDepth 100000 in
theorem c_X0_init (l : Launch) (D : va_G) (cy : ClassId × ClassId × ClassId × ClassId) (ad : Nat → Nat) {V : Vt} {S : Me} {o : Nat} {x1 : Int} {x2 : Int} {x3 : Int} {x4 : Int} (ho : o < V.1) (ht : isA (V.2.1 o)) (rx1 : rng x1) (rx2 : rng x2) (rx3 : rng x3) (rx4 : rng x4) {Q : Me → Prop} (h : PT_X0_init V o x1 x2 x3 x4 S Q) : KM l D cy yX0_init cX0_init 5 (Option.none : Option Jvm.ClassFile.FieldType) 2 40 ad V S [.inr (some o), .inl x1, .inl x2, .inl x3, .inl x4] (qV Q) := by
  refine KM.of (by decide) rfl (Nat.le_of_ble_eq_true rfl) (own := RX0) (fun p e s m args below meth c A ls H locs eA C hret hml hmn hl G => ?_)
  have hl : lo ad ls [some (.inr (some o)), some (.inl x1), some (.inl x2), some (.inl x3), some (.inl x4)] := hl
  clear eA
  unfold PT_X0_init at h
  refine gx_aload_n C hl dX0_init_0 rfl ?_
  refine gx_objInit C hl hml rfl uw_297 ⟨Nat.le_of_ble_eq_true rfl, Nat.le_of_ble_eq_true rfl⟩ (hw_le ad [] rfl (Nat.le_of_ble_eq_true rfl)) dX0_init_1 ?_
  refine gx_aload_n C hl dX0_init_4 rfl ?_
  refine gx_iconst C dX0_init_5 ?_
  refine gx_putI C G rfl ho (foA_6 ht) (show rng 0 by decide) uw_329 (fun _ h9 => h9) dX0_init_6 (fun H locs G => ?_)
  obtain ⟨S1, eS1⟩ : ∃ q9 : Me, q9 = sI S o 6 0 := ⟨_, rfl⟩
  have h := h S1 eS1
  rw [← eS1] at G
  refine gx_aload_n C hl dX0_init_9 rfl ?_
  refine gx_bipush C dX0_init_10 (by decide) ?_
  refine gx_putI C G rfl ho (foA_7 ht) (show rng (-2) by decide) uw_332 (fun _ h9 => h9) dX0_init_12 (fun H locs G => ?_)
  obtain ⟨S2, eS2⟩ : ∃ q9 : Me, q9 = sI S1 o 7 (-2) := ⟨_, rfl⟩
  have h := h S2 eS2
  rw [← eS2] at G
  refine gx_aload_n C hl dX0_init_15 rfl ?_
  refine gx_null (ad := ad) C dX0_init_16 ?_
  refine gx_putP C G rfl ho (foA_8 ht) (Or.inl ⟨_, rfl⟩) vnone uw_336 (fun _ h9 => h9) dX0_init_17 (fun H locs G => ?_)
  obtain ⟨S3, eS3⟩ : ∃ q9 : Me, q9 = sP S2 o 8 none := ⟨_, rfl⟩
  have h := h S3 eS3
  rw [← eS3] at G
  refine gx_aload_n C hl dX0_init_20 rfl ?_
  refine gx_null (ad := ad) C dX0_init_21 ?_
  refine gx_putP C G rfl ho (foA_9 ht) (Or.inl ⟨_, rfl⟩) vnone uw_338 (fun _ h9 => h9) dX0_init_22 (fun H locs G => ?_)
  obtain ⟨S4, eS4⟩ : ∃ q9 : Me, q9 = sP S3 o 9 none := ⟨_, rfl⟩
  have h := h S4 eS4
  rw [← eS4] at G
  refine gx_aload_n C hl dX0_init_25 rfl ?_
  refine gx_iconst C dX0_init_26 ?_
  refine gx_putI C G rfl ho (foA_10 ht) (show rng 0 by decide) uw_341 (fun _ h9 => h9) dX0_init_27 (fun H locs G => ?_)
  obtain ⟨S5, eS5⟩ : ∃ q9 : Me, q9 = sI S4 o 10 0 := ⟨_, rfl⟩
  have h := h S5 eS5
  rw [← eS5] at G
  refine gx_aload_n C hl dX0_init_30 rfl ?_
  refine gx_iload_n C hl dX0_init_31 rfl ?_
  refine gx_putIF C hmn G rfl ho (foA_0 ht) rx1 uw_305 dX0_init_32 (fun H locs G => ?_)
  obtain ⟨S6, eS6⟩ : ∃ q9 : Me, q9 = sI S5 o 0 x1 := ⟨_, rfl⟩
  have h := h S6 eS6
  rw [← eS6] at G
  refine gx_aload_n C hl dX0_init_35 rfl ?_
  refine gx_iload_n C hl dX0_init_36 rfl ?_
  refine gx_putIF C hmn G rfl ho (foA_1 ht) rx2 uw_309 dX0_init_37 (fun H locs G => ?_)
  obtain ⟨S7, eS7⟩ : ∃ q9 : Me, q9 = sI S6 o 1 x2 := ⟨_, rfl⟩
  have h := h S7 eS7
  rw [← eS7] at G
  refine gx_aload_n C hl dX0_init_40 rfl ?_
  refine gx_iload_n C hl dX0_init_41 rfl ?_
  refine gx_putIF C hmn G rfl ho (foA_2 ht) rx3 uw_312 dX0_init_42 (fun H locs G => ?_)
  obtain ⟨S8, eS8⟩ : ∃ q9 : Me, q9 = sI S7 o 2 x3 := ⟨_, rfl⟩
  have h := h S8 eS8
  rw [← eS8] at G
  refine gx_aload_n C hl dX0_init_45 rfl ?_
  refine gx_iload_n C hl dX0_init_46 rfl ?_
  refine gx_callS C G hl hml (c_X4_bankOf l D cy ad rx3 h) uw_300 uw_298 uw_299 uw_5 hd_X4_bankOf ⟨Nat.le_of_ble_eq_true rfl, Nat.le_of_ble_eq_true rfl⟩ ⟨Nat.zero_le _, Nat.zero_le _⟩ rfl rfl (hw_le ad [.inr (some o)] rfl (Nat.le_of_ble_eq_true rfl)) dX0_init_47 (kkI (fun t10 S9 H locs rt10 h G => ?_))
  refine gx_putIF C hmn G rfl ho (foA_3 ht) rt10 uw_317 dX0_init_50 (fun H locs G => ?_)
  obtain ⟨S11, eS11⟩ : ∃ q9 : Me, q9 = sI S9 o 3 t10 := ⟨_, rfl⟩
  have h := h S11 eS11
  rw [← eS11] at G
  refine gx_aload_n C hl dX0_init_53 rfl ?_
  refine gx_iload_n C hl dX0_init_54 rfl ?_
  refine gx_callS C G hl hml (c_X4_rowOf l D cy ad rx3 h) uw_303 uw_304 uw_302 uw_5 hd_X4_rowOf ⟨Nat.le_of_ble_eq_true rfl, Nat.le_of_ble_eq_true rfl⟩ ⟨Nat.zero_le _, Nat.zero_le _⟩ rfl rfl (hw_le ad [.inr (some o)] rfl (Nat.le_of_ble_eq_true rfl)) dX0_init_55 (kkI (fun t13 S12 H locs rt13 h G => ?_))
  refine gx_putIF C hmn G rfl ho (foA_4 ht) rt13 uw_321 dX0_init_58 (fun H locs G => ?_)
  obtain ⟨S14, eS14⟩ : ∃ q9 : Me, q9 = sI S12 o 4 t13 := ⟨_, rfl⟩
  have h := h S14 eS14
  rw [← eS14] at G
  refine gx_aload_n C hl dX0_init_61 rfl ?_
  refine gx_iload C hl dX0_init_62 rfl ?_
  refine gx_putIF C hmn G rfl ho (foA_5 ht) rx4 uw_326 dX0_init_64 (fun H locs G => ?_)
  obtain ⟨S15, eS15⟩ : ∃ q9 : Me, q9 = sI S14 o 5 x4 := ⟨_, rfl⟩
  have h := h S15 eS15
  rw [← eS15] at G
  exact gx_vret C G hret h dX0_init_67
def PT_X10_init (V : Vt) (o : Nat) (x1 : Int) (x2 : Int) (x3 : Int) (x4 : Int) (x5 : Int) (S : Me) (Q : Me → Prop) : Prop := PT_X0_init V o x1 x2 x3 x4 S (fun S1 => ∀ S2 : Me, S2 = sI S1 o 11 x5 → Q S2)
theorem hd_X10_init : yX10_init.cls ≠ "java/lang/invoke/MethodHandle" ∧ yX10_init.cls ≠ "java/lang/invoke/VarHandle" ∧ (parseMethodDescriptor yX10_init.desc).map (fun d => d.parameters.length) = some 5 := by decide +kernel
set_option maxHeartbeats 4000000 in
set_option maxRecDepth 100000 in
theorem c_X10_init (l : Launch) (D : va_G) (cy : ClassId × ClassId × ClassId × ClassId) (ad : Nat → Nat) {V : Vt} {S : Me} {o : Nat} {x1 : Int} {x2 : Int} {x3 : Int} {x4 : Int} {x5 : Int} (ho : o < V.1) (ht : isW (V.2.1 o)) (rx1 : rng x1) (rx2 : rng x2) (rx3 : rng x3) (rx4 : rng x4) (rx5 : rng x5) {Q : Me → Prop} (h : PT_X10_init V o x1 x2 x3 x4 x5 S Q) : KM l D cy yX10_init cX10_init 6 (Option.none : Option Jvm.ClassFile.FieldType) 3 64 ad V S [.inr (some o), .inl x1, .inl x2, .inl x3, .inl x4, .inl x5] (qV Q) := by
  refine KM.of (by decide) rfl (Nat.le_of_ble_eq_true rfl) (own := RX10) (fun p e s m args below meth c A ls H locs eA C hret hml hmn hl G => ?_)
  have hl : lo ad ls [some (.inr (some o)), some (.inl x1), some (.inl x2), some (.inl x3), some (.inl x4), some (.inl x5)] := hl
  clear eA
  unfold PT_X10_init at h
  refine gx_aload_n C hl dX10_init_0 rfl ?_
  refine gx_iload_n C hl dX10_init_1 rfl ?_
  refine gx_iload_n C hl dX10_init_2 rfl ?_
  refine gx_iload_n C hl dX10_init_3 rfl ?_
  refine gx_iload C hl dX10_init_4 rfl ?_
  refine gx_callI C G hl hml (c_X0_init l D cy ad ho (by have := ht; omega) rx1 rx2 rx3 rx4 h) rfl uw_296 uw_409 uw_295 uw_10 rfl hd_X0_init ⟨Nat.le_of_ble_eq_true rfl, Nat.le_of_ble_eq_true rfl⟩ ⟨Nat.zero_le _, Nat.zero_le _⟩ rfl rfl (hw_le ad [] rfl (Nat.le_of_ble_eq_true rfl)) dX10_init_6 (kkV (fun S1 H locs h G => ?_))
  refine gx_aload_n C hl dX10_init_9 rfl ?_
  refine gx_iload C hl dX10_init_10 rfl ?_
  refine gx_putIF C hmn G rfl ho (foW_11 ht) rx5 uw_410 dX10_init_12 (fun H locs G => ?_)
  obtain ⟨S2, eS2⟩ : ∃ q9 : Me, q9 = sI S1 o 11 x5 := ⟨_, rfl⟩
  have h := h S2 eS2
  rw [← eS2] at G
  exact gx_vret C G hret h dX10_init_15
def PT_X6_init (V : Vt) (o : Nat) (x1 : Int) (x2 : Int) (x3 : Int) (x4 : Int) (S : Me) (Q : Me → Prop) : Prop := PT_X0_init V o x1 x2 x3 x4 S (fun S1 => Q S1)
theorem hd_X6_init : yX6_init.cls ≠ "java/lang/invoke/MethodHandle" ∧ yX6_init.cls ≠ "java/lang/invoke/VarHandle" ∧ (parseMethodDescriptor yX6_init.desc).map (fun d => d.parameters.length) = some 4 := by decide +kernel
set_option maxHeartbeats 4000000 in
set_option maxRecDepth 100000 in
theorem c_X6_init (l : Launch) (D : va_G) (cy : ClassId × ClassId × ClassId × ClassId) (ad : Nat → Nat) {V : Vt} {S : Me} {o : Nat} {x1 : Int} {x2 : Int} {x3 : Int} {x4 : Int} (ho : o < V.1) (ht : V.2.1 o = 5) (rx1 : rng x1) (rx2 : rng x2) (rx3 : rng x3) (rx4 : rng x4) {Q : Me → Prop} (h : PT_X6_init V o x1 x2 x3 x4 S Q) : KM l D cy yX6_init cX6_init 5 (Option.none : Option Jvm.ClassFile.FieldType) 3 64 ad V S [.inr (some o), .inl x1, .inl x2, .inl x3, .inl x4] (qV Q) := by
  refine KM.of (by decide) rfl (Nat.le_of_ble_eq_true rfl) (own := RX6) (fun p e s m args below meth c A ls H locs eA C hret hml hmn hl G => ?_)
  have hl : lo ad ls [some (.inr (some o)), some (.inl x1), some (.inl x2), some (.inl x3), some (.inl x4)] := hl
  clear eA
  unfold PT_X6_init at h
  refine gx_aload_n C hl dX6_init_0 rfl ?_
  refine gx_iload_n C hl dX6_init_1 rfl ?_
  refine gx_iload_n C hl dX6_init_2 rfl ?_
  refine gx_iload_n C hl dX6_init_3 rfl ?_
  refine gx_iload C hl dX6_init_4 rfl ?_
  refine gx_callI C G hl hml (c_X0_init l D cy ad ho (by have := ht; omega) rx1 rx2 rx3 rx4 h) rfl uw_296 uw_294 uw_295 uw_10 rfl hd_X0_init ⟨Nat.le_of_ble_eq_true rfl, Nat.le_of_ble_eq_true rfl⟩ ⟨Nat.zero_le _, Nat.zero_le _⟩ rfl rfl (hw_le ad [] rfl (Nat.le_of_ble_eq_true rfl)) dX6_init_6 (kkV (fun S1 H locs h G => ?_))
  exact gx_vret C G hret h dX6_init_9
def PT_X2_init (V : Vt) (o : Nat) (x1 : Int) (x2 : Int) (x3 : Int) (S : Me) (Q : Me → Prop) : Prop := PT_X0_init V o x1 x2 (-2) x3 S (fun S1 => Q S1)
theorem hd_X2_init : yX2_init.cls ≠ "java/lang/invoke/MethodHandle" ∧ yX2_init.cls ≠ "java/lang/invoke/VarHandle" ∧ (parseMethodDescriptor yX2_init.desc).map (fun d => d.parameters.length) = some 3 := by decide +kernel
set_option maxHeartbeats 4000000 in
set_option maxRecDepth 100000 in
theorem c_X2_init (l : Launch) (D : va_G) (cy : ClassId × ClassId × ClassId × ClassId) (ad : Nat → Nat) {V : Vt} {S : Me} {o : Nat} {x1 : Int} {x2 : Int} {x3 : Int} (ho : o < V.1) (ht : V.2.1 o = 1) (rx1 : rng x1) (rx2 : rng x2) (rx3 : rng x3) {Q : Me → Prop} (h : PT_X2_init V o x1 x2 x3 S Q) : KM l D cy yX2_init cX2_init 4 (Option.none : Option Jvm.ClassFile.FieldType) 3 64 ad V S [.inr (some o), .inl x1, .inl x2, .inl x3] (qV Q) := by
  refine KM.of (by decide) rfl (Nat.le_of_ble_eq_true rfl) (own := RX2) (fun p e s m args below meth c A ls H locs eA C hret hml hmn hl G => ?_)
  have hl : lo ad ls [some (.inr (some o)), some (.inl x1), some (.inl x2), some (.inl x3)] := hl
  clear eA
  unfold PT_X2_init at h
  refine gx_aload_n C hl dX2_init_0 rfl ?_
  refine gx_iload_n C hl dX2_init_1 rfl ?_
  refine gx_iload_n C hl dX2_init_2 rfl ?_
  refine gx_bipush C dX2_init_3 (by decide) ?_
  refine gx_iload_n C hl dX2_init_5 rfl ?_
  refine gx_callI C G hl hml (c_X0_init l D cy ad ho (by have := ht; omega) rx1 rx2 (show rng (-2) by decide) rx3 h) rfl uw_296 uw_485 uw_295 uw_10 rfl hd_X0_init ⟨Nat.le_of_ble_eq_true rfl, Nat.le_of_ble_eq_true rfl⟩ ⟨Nat.zero_le _, Nat.zero_le _⟩ rfl rfl (hw_le ad [] rfl (Nat.le_of_ble_eq_true rfl)) dX2_init_6 (kkV (fun S1 H locs h G => ?_))
  exact gx_vret C G hret h dX2_init_9
def PT_X9_init (V : Vt) (o : Nat) (x1 : Int) (x2 : Int) (x3 : Int) (x4 : Int) (x5 : Int) (S : Me) (Q : Me → Prop) : Prop := PT_X10_init V o x1 x2 x3 x4 x5 S (fun S1 => Q S1)
theorem hd_X9_init : yX9_init.cls ≠ "java/lang/invoke/MethodHandle" ∧ yX9_init.cls ≠ "java/lang/invoke/VarHandle" ∧ (parseMethodDescriptor yX9_init.desc).map (fun d => d.parameters.length) = some 5 := by decide +kernel
set_option maxHeartbeats 4000000 in
set_option maxRecDepth 100000 in
theorem c_X9_init (l : Launch) (D : va_G) (cy : ClassId × ClassId × ClassId × ClassId) (ad : Nat → Nat) {V : Vt} {S : Me} {o : Nat} {x1 : Int} {x2 : Int} {x3 : Int} {x4 : Int} {x5 : Int} (ho : o < V.1) (ht : V.2.1 o = 8) (rx1 : rng x1) (rx2 : rng x2) (rx3 : rng x3) (rx4 : rng x4) (rx5 : rng x5) {Q : Me → Prop} (h : PT_X9_init V o x1 x2 x3 x4 x5 S Q) : KM l D cy yX9_init cX9_init 6 (Option.none : Option Jvm.ClassFile.FieldType) 4 89 ad V S [.inr (some o), .inl x1, .inl x2, .inl x3, .inl x4, .inl x5] (qV Q) := by
  refine KM.of (by decide) rfl (Nat.le_of_ble_eq_true rfl) (own := RX9) (fun p e s m args below meth c A ls H locs eA C hret hml hmn hl G => ?_)
  have hl : lo ad ls [some (.inr (some o)), some (.inl x1), some (.inl x2), some (.inl x3), some (.inl x4), some (.inl x5)] := hl
  clear eA
  unfold PT_X9_init at h
  refine gx_aload_n C hl dX9_init_0 rfl ?_
  refine gx_iload_n C hl dX9_init_1 rfl ?_
  refine gx_iload_n C hl dX9_init_2 rfl ?_
  refine gx_iload_n C hl dX9_init_3 rfl ?_
  refine gx_iload C hl dX9_init_4 rfl ?_
  refine gx_iload C hl dX9_init_6 rfl ?_
  refine gx_callI C G hl hml (c_X10_init l D cy ad ho (by have := ht; omega) rx1 rx2 rx3 rx4 rx5 h) rfl uw_408 uw_462 uw_407 uw_12 rfl hd_X10_init ⟨Nat.le_of_ble_eq_true rfl, Nat.le_of_ble_eq_true rfl⟩ ⟨Nat.zero_le _, Nat.zero_le _⟩ rfl rfl (hw_le ad [] rfl (Nat.le_of_ble_eq_true rfl)) dX9_init_8 (kkV (fun S1 H locs h G => ?_))
  exact gx_vret C G hret h dX9_init_11
def PT_X3_init (V : Vt) (o : Nat) (x1 : Int) (x2 : Int) (x3 : Int) (x4 : Int) (x5 : Int) (x6 : Int) (S : Me) (Q : Me → Prop) : Prop := PT_X10_init V o x1 x2 x3 x4 x5 S (fun S1 => ∀ S2 : Me, S2 = sI S1 o 12 x6 → Q S2)
theorem hd_X3_init : yX3_init.cls ≠ "java/lang/invoke/MethodHandle" ∧ yX3_init.cls ≠ "java/lang/invoke/VarHandle" ∧ (parseMethodDescriptor yX3_init.desc).map (fun d => d.parameters.length) = some 6 := by decide +kernel
set_option maxHeartbeats 4000000 in
set_option maxRecDepth 100000 in
theorem c_X3_init (l : Launch) (D : va_G) (cy : ClassId × ClassId × ClassId × ClassId) (ad : Nat → Nat) {V : Vt} {S : Me} {o : Nat} {x1 : Int} {x2 : Int} {x3 : Int} {x4 : Int} {x5 : Int} {x6 : Int} (ho : o < V.1) (ht : V.2.1 o = 2) (rx1 : rng x1) (rx2 : rng x2) (rx3 : rng x3) (rx4 : rng x4) (rx5 : rng x5) (rx6 : rng x6) {Q : Me → Prop} (h : PT_X3_init V o x1 x2 x3 x4 x5 x6 S Q) : KM l D cy yX3_init cX3_init 7 (Option.none : Option Jvm.ClassFile.FieldType) 4 89 ad V S [.inr (some o), .inl x1, .inl x2, .inl x3, .inl x4, .inl x5, .inl x6] (qV Q) := by
  refine KM.of (by decide) rfl (Nat.le_of_ble_eq_true rfl) (own := RX3) (fun p e s m args below meth c A ls H locs eA C hret hml hmn hl G => ?_)
  have hl : lo ad ls [some (.inr (some o)), some (.inl x1), some (.inl x2), some (.inl x3), some (.inl x4), some (.inl x5), some (.inl x6)] := hl
  clear eA
  unfold PT_X3_init at h
  refine gx_aload_n C hl dX3_init_0 rfl ?_
  refine gx_iload_n C hl dX3_init_1 rfl ?_
  refine gx_iload_n C hl dX3_init_2 rfl ?_
  refine gx_iload_n C hl dX3_init_3 rfl ?_
  refine gx_iload C hl dX3_init_4 rfl ?_
  refine gx_iload C hl dX3_init_6 rfl ?_
  refine gx_callI C G hl hml (c_X10_init l D cy ad ho (by have := ht; omega) rx1 rx2 rx3 rx4 rx5 h) rfl uw_408 uw_436 uw_407 uw_12 rfl hd_X10_init ⟨Nat.le_of_ble_eq_true rfl, Nat.le_of_ble_eq_true rfl⟩ ⟨Nat.zero_le _, Nat.zero_le _⟩ rfl rfl (hw_le ad [] rfl (Nat.le_of_ble_eq_true rfl)) dX3_init_8 (kkV (fun S1 H locs h G => ?_))
  refine gx_aload_n C hl dX3_init_11 rfl ?_
  refine gx_iload C hl dX3_init_12 rfl ?_
  refine gx_putIF C hmn G rfl ho (fo2_12 ht) rx6 uw_437 dX3_init_14 (fun H locs G => ?_)
  obtain ⟨S2, eS2⟩ : ∃ q9 : Me, q9 = sI S1 o 12 x6 := ⟨_, rfl⟩
  have h := h S2 eS2
  rw [← eS2] at G
  exact gx_vret C G hret h dX3_init_17
def PT_X11_ask (V : Vt) (o : Nat) (x1 : Int) (x2 : Int) (S : Me) (Q : Int → Vt → Me → Prop) : Prop := PT_X11_isAsker V x1 S (fun t2 S1 => ((t2 = 0 → Q (-1) V S1) ∧ (¬ t2 = 0 → PT_X11_isAddress V x2 S1 (fun t5 S4 => ((¬ t5 = 0 → ∀ U7 : Vt, U7 = V → ∀ V : Vt, V = nV U7 5 0 → ∀ S8 : Me, S8 = nS U7 S4 → PT_X6_init V U7.1 (S8.1 (o + 28) 6) x1 x2 (S8.1 o 6) S8 (fun S17 => PT_X7_add V (o + 28) (some U7.1) S17 (fun t19 S18 => Q t19 V S18))) ∧ (t5 = 0 → Q (-1) V S4))))))
theorem hd_X11_ask : yX11_ask.cls ≠ "java/lang/invoke/MethodHandle" ∧ yX11_ask.cls ≠ "java/lang/invoke/VarHandle" ∧ (parseMethodDescriptor yX11_ask.desc).map (fun d => d.parameters.length) = some 2 := by decide +kernel
set_option maxHeartbeats 4000000 in
set_option maxRecDepth 100000 in
theorem c_X11_ask (l : Launch) (D : va_G) (cy : ClassId × ClassId × ClassId × ClassId) (ad : Nat → Nat) {V : Vt} {S : Me} {o : Nat} {x1 : Int} {x2 : Int} (hV : fX11 V o) (rx1 : rng x1) (rx2 : rng x2) {Q : Int → Vt → Me → Prop} (h : PT_X11_ask V o x1 x2 S Q) : KA l D cy yX11_ask cX11_ask 3 (Option.some Jvm.ClassFile.FieldType.int) 4 88 1 11 ad V S [.inr (some o), .inl x1, .inl x2] (aI Q) := by
  refine KA.of (by decide) rfl (Nat.le_of_ble_eq_true rfl) (own := RX11) (fun p e s m args below meth c A ls H locs eA C hret hml hmn hl G => ?_)
  have hl : lo ad ls [some (.inr (some o)), some (.inl x1), some (.inl x2)] := hl
  obtain ⟨ad0, ead0⟩ : ∃ q : Nat → Nat, q = ad := ⟨_, rfl⟩
  obtain ⟨V0, eV0⟩ : ∃ q : Vt, q = V := ⟨_, rfl⟩
  have hag : ∀ k, k < V0.1 → ad k = ad0 k := fun k _ => by rw [ead0]
  have hex : exV V0 V := by rw [eV0]; exact exV.rf V
  rw [← ead0, ← eV0]
  clear eV0 ead0
  clear eA
  unfold PT_X11_ask at h
  refine gx_iload_n C hl dX11_ask_0 rfl ?_
  refine gx_callS C G hl hml (c_X11_isAsker l D cy ad rx1 h) uw_285 uw_283 uw_284 uw_1 hd_X11_isAsker ⟨Nat.le_of_ble_eq_true rfl, Nat.le_of_ble_eq_true rfl⟩ ⟨Nat.le_of_ble_eq_true rfl, Nat.le_of_ble_eq_true rfl⟩ rfl rfl (hw_le ad [] rfl (Nat.le_of_ble_eq_true rfl)) dX11_ask_1 (kkI (fun t2 S1 H locs rt2 h G => ?_))
  refine gx_if_eq (tgt := 14) C rt2 dX11_ask_4 (by decide) (fun c3 => ?_) (fun c3 => ?_)
  · have h := h.1 c3
    refine gx_iconst C dX11_ask_14 ?_
    exact gx_iretA C G hag hex hret (show rng (-1) by decide) h dX11_ask_15 ⟨Nat.le_of_ble_eq_true rfl, Nat.le_of_ble_eq_true rfl⟩
  · have h := h.2 c3
    refine gx_iload_n C hl dX11_ask_7 rfl ?_
    refine gx_callS C G hl hml (c_X11_isAddress l D cy ad rx2 h) uw_288 uw_286 uw_287 uw_1 hd_X11_isAddress ⟨Nat.le_of_ble_eq_true rfl, Nat.le_of_ble_eq_true rfl⟩ ⟨Nat.le_of_ble_eq_true rfl, Nat.le_of_ble_eq_true rfl⟩ rfl rfl (hw_le ad [] rfl (Nat.le_of_ble_eq_true rfl)) dX11_ask_8 (kkI (fun t5 S4 H locs rt5 h G => ?_))
    refine gx_if_ne (tgt := 16) C rt5 dX11_ask_11 (by decide) (fun c6 => ?_) (fun c6 => ?_)
    · have h := h.1 c6
      refine gx_aload_n C hl dX11_ask_16 rfl ?_
      refine gx_getF C G rfl (fX11_o hV) (fo10_4 (fX11_c hV)) (fX11_queue hV) uw_219 (fun _ h9 => h9) dX11_ask_17 ?_
      obtain ⟨U7, rfl⟩ : ∃ q : Vt, q = V := ⟨_, rfl⟩
      have h := h U7 rfl
      refine gx_new C G hl (okP_S (okv_R (vsome (fX11_o hV))) (okP_S (okv_I rx1) (okP_S (okv_I rx2) okP_0))) (t := 5) rfl iu5 tyX6 tyX6_ok (df_5 ad) (by decide) uw_289 uw_290 uw_11 (Nat.le_of_ble_eq_true rfl) (Nat.le_of_ble_eq_true rfl) [.inr (some (o + 28))] rfl (okS_S (okv_R (vsome (fX7_o (fX11_queue_s hV)))) okS_0) dX11_ask_20 (fun ad V S8 H eV eS hag1 hex1 hl G => ?_)
      have h := h V eV S8 eS
      have nlU7 : U7.1 < V.1 := by rw [eV]; exact Nat.lt_succ_self _
      have ntU7 : V.2.1 U7.1 = 5 := by rw [eV]; simp [nV]
      have v9 := hex1.vl (vsome (fX11_o hV))
      have l10 := hex1.lt (fX11_o hV)
      have s11 := fX11_x hex1 hV
      have v12 := hex1.vl (vsome (fX7_o (fX11_queue_s hV)))
      have l13 := hex1.lt (fX7_o (fX11_queue_s hV))
      have s14 := fX7_x hex1 (fX11_queue_s hV)
      have hag := fun k hk => (hag1 k (hex.lt hk)).trans (hag k hk)
      have hex := hex.tr hex1
      refine gx_dupR C dX11_ask_23 ?_
      refine gx_aload_n C hl dX11_ask_24 rfl ?_
      refine gx_getF C G rfl l10 (fo10_4 (fX11_c s11)) (fX11_queue s11) uw_219 (fun _ h9 => h9) dX11_ask_25 ?_
      refine gx_getI C G rfl (fX7_o (fX11_queue_s s11)) (fo6_6 (fX7_c (fX11_queue_s s11))) uw_160 (fun _ h9 => h9) dX11_ask_28 ?_
      have r15 := G.r (o + 28) 6
      refine gx_iload_n C hl dX11_ask_31 rfl ?_
      refine gx_iload_n C hl dX11_ask_32 rfl ?_
      refine gx_aload_n C hl dX11_ask_33 rfl ?_
      refine gx_getI C G rfl l10 (fo10_6 (fX11_c s11)) uw_221 (fun _ h9 => h9) dX11_ask_34 ?_
      have r16 := G.r o 6
      refine gx_callI C G hl hml (c_X6_init l D cy ad nlU7 (by have := ntU7; omega) r15 rx1 rx2 r16 h) rfl uw_293 uw_291 uw_292 uw_11 rfl hd_X6_init ⟨Nat.le_of_ble_eq_true rfl, Nat.le_of_ble_eq_true rfl⟩ ⟨Nat.le_of_ble_eq_true rfl, Nat.le_of_ble_eq_true rfl⟩ rfl rfl (hw_le ad [.inr (some U7.1), .inr (some (o + 28))] rfl (Nat.le_of_ble_eq_true rfl)) dX11_ask_37 (kkV (fun S17 H locs h G => ?_))
      refine gx_callV C G hl hml (c_X7_add l D cy ad s14 (vsome nlU7) h) rfl l13 (by rw [(fX7_c s14)]; rfl) (by rw [(fX7_c s14)]; decide) rfl uw_369 uw_366 uw_367 uw_368 uw_6 hd_X7_add ⟨Nat.le_of_ble_eq_true rfl, Nat.le_of_ble_eq_true rfl⟩ ⟨Nat.le_of_ble_eq_true rfl, Nat.le_of_ble_eq_true rfl⟩ rfl rfl (hw_le ad [] rfl (Nat.le_of_ble_eq_true rfl)) dX11_ask_40 (kkI (fun t19 S18 H locs rt19 h G => ?_))
      exact gx_iretA C G hag hex hret rt19 h dX11_ask_43 ⟨Nat.le_of_ble_eq_true rfl, Nat.le_of_ble_eq_true rfl⟩
    · have h := h.2 c6
      refine gx_iconst C dX11_ask_14 ?_
      exact gx_iretA C G hag hex hret (show rng (-1) by decide) h dX11_ask_15 ⟨Nat.le_of_ble_eq_true rfl, Nat.le_of_ble_eq_true rfl⟩
def PT_X11_write (V : Vt) (o : Nat) (x1 : Int) (x2 : Int) (x3 : Int) (S : Me) (Q : Int → Vt → Me → Prop) : Prop := PT_X11_isAsker V x1 S (fun t2 S1 => ((t2 = 0 → Q (-1) V S1) ∧ (¬ t2 = 0 → PT_X11_isAddress V x2 S1 (fun t5 S4 => ((t5 = 0 → Q (-1) V S4) ∧ (¬ t5 = 0 → PT_X11_isOctet V x3 S4 (fun t8 S7 => ((¬ t8 = 0 → ∀ U10 : Vt, U10 = V → ∀ V : Vt, V = nV U10 9 0 → ∀ S11 : Me, S11 = nS U10 S7 → PT_X10_init V U10.1 (S11.1 (o + 28) 6) x1 x2 (S11.1 o 6) x3 S11 (fun S20 => PT_X7_add V (o + 28) (some U10.1) S20 (fun t22 S21 => Q t22 V S21))) ∧ (t8 = 0 → Q (-1) V S7)))))))))
theorem hd_X11_write : yX11_write.cls ≠ "java/lang/invoke/MethodHandle" ∧ yX11_write.cls ≠ "java/lang/invoke/VarHandle" ∧ (parseMethodDescriptor yX11_write.desc).map (fun d => d.parameters.length) = some 3 := by decide +kernel
set_option maxHeartbeats 4000000 in
set_option maxRecDepth 100000 in
theorem c_X11_write (l : Launch) (D : va_G) (cy : ClassId × ClassId × ClassId × ClassId) (ad : Nat → Nat) {V : Vt} {S : Me} {o : Nat} {x1 : Int} {x2 : Int} {x3 : Int} (hV : fX11 V o) (rx1 : rng x1) (rx2 : rng x2) (rx3 : rng x3) {Q : Int → Vt → Me → Prop} (h : PT_X11_write V o x1 x2 x3 S Q) : KA l D cy yX11_write cX11_write 4 (Option.some Jvm.ClassFile.FieldType.int) 4 89 1 12 ad V S [.inr (some o), .inl x1, .inl x2, .inl x3] (aI Q) := by
  refine KA.of (by decide) rfl (Nat.le_of_ble_eq_true rfl) (own := RX11) (fun p e s m args below meth c A ls H locs eA C hret hml hmn hl G => ?_)
  have hl : lo ad ls [some (.inr (some o)), some (.inl x1), some (.inl x2), some (.inl x3)] := hl
  obtain ⟨ad0, ead0⟩ : ∃ q : Nat → Nat, q = ad := ⟨_, rfl⟩
  obtain ⟨V0, eV0⟩ : ∃ q : Vt, q = V := ⟨_, rfl⟩
  have hag : ∀ k, k < V0.1 → ad k = ad0 k := fun k _ => by rw [ead0]
  have hex : exV V0 V := by rw [eV0]; exact exV.rf V
  rw [← ead0, ← eV0]
  clear eV0 ead0
  clear eA
  unfold PT_X11_write at h
  refine gx_iload_n C hl dX11_write_0 rfl ?_
  refine gx_callS C G hl hml (c_X11_isAsker l D cy ad rx1 h) uw_285 uw_283 uw_284 uw_1 hd_X11_isAsker ⟨Nat.le_of_ble_eq_true rfl, Nat.le_of_ble_eq_true rfl⟩ ⟨Nat.le_of_ble_eq_true rfl, Nat.le_of_ble_eq_true rfl⟩ rfl rfl (hw_le ad [] rfl (Nat.le_of_ble_eq_true rfl)) dX11_write_1 (kkI (fun t2 S1 H locs rt2 h G => ?_))
  refine gx_if_eq (tgt := 21) C rt2 dX11_write_4 (by decide) (fun c3 => ?_) (fun c3 => ?_)
  · have h := h.1 c3
    refine gx_iconst C dX11_write_21 ?_
    exact gx_iretA C G hag hex hret (show rng (-1) by decide) h dX11_write_22 ⟨Nat.le_of_ble_eq_true rfl, Nat.le_of_ble_eq_true rfl⟩
  · have h := h.2 c3
    refine gx_iload_n C hl dX11_write_7 rfl ?_
    refine gx_callS C G hl hml (c_X11_isAddress l D cy ad rx2 h) uw_288 uw_286 uw_287 uw_1 hd_X11_isAddress ⟨Nat.le_of_ble_eq_true rfl, Nat.le_of_ble_eq_true rfl⟩ ⟨Nat.le_of_ble_eq_true rfl, Nat.le_of_ble_eq_true rfl⟩ rfl rfl (hw_le ad [] rfl (Nat.le_of_ble_eq_true rfl)) dX11_write_8 (kkI (fun t5 S4 H locs rt5 h G => ?_))
    refine gx_if_eq (tgt := 21) C rt5 dX11_write_11 (by decide) (fun c6 => ?_) (fun c6 => ?_)
    · have h := h.1 c6
      refine gx_iconst C dX11_write_21 ?_
      exact gx_iretA C G hag hex hret (show rng (-1) by decide) h dX11_write_22 ⟨Nat.le_of_ble_eq_true rfl, Nat.le_of_ble_eq_true rfl⟩
    · have h := h.2 c6
      refine gx_iload_n C hl dX11_write_14 rfl ?_
      refine gx_callS C G hl hml (c_X11_isOctet l D cy ad rx3 h) uw_403 uw_401 uw_402 uw_1 hd_X11_isOctet ⟨Nat.le_of_ble_eq_true rfl, Nat.le_of_ble_eq_true rfl⟩ ⟨Nat.le_of_ble_eq_true rfl, Nat.le_of_ble_eq_true rfl⟩ rfl rfl (hw_le ad [] rfl (Nat.le_of_ble_eq_true rfl)) dX11_write_15 (kkI (fun t8 S7 H locs rt8 h G => ?_))
      refine gx_if_ne (tgt := 23) C rt8 dX11_write_18 (by decide) (fun c9 => ?_) (fun c9 => ?_)
      · have h := h.1 c9
        refine gx_aload_n C hl dX11_write_23 rfl ?_
        refine gx_getF C G rfl (fX11_o hV) (fo10_4 (fX11_c hV)) (fX11_queue hV) uw_219 (fun _ h9 => h9) dX11_write_24 ?_
        obtain ⟨U10, rfl⟩ : ∃ q : Vt, q = V := ⟨_, rfl⟩
        have h := h U10 rfl
        refine gx_new C G hl (okP_S (okv_R (vsome (fX11_o hV))) (okP_S (okv_I rx1) (okP_S (okv_I rx2) (okP_S (okv_I rx3) okP_0)))) (t := 9) rfl iu9 tyX10 tyX10_ok (df_9 ad) (by decide) uw_404 uw_405 uw_12 (Nat.le_of_ble_eq_true rfl) (Nat.le_of_ble_eq_true rfl) [.inr (some (o + 28))] rfl (okS_S (okv_R (vsome (fX7_o (fX11_queue_s hV)))) okS_0) dX11_write_27 (fun ad V S11 H eV eS hag1 hex1 hl G => ?_)
        have h := h V eV S11 eS
        have nlU10 : U10.1 < V.1 := by rw [eV]; exact Nat.lt_succ_self _
        have ntU10 : V.2.1 U10.1 = 9 := by rw [eV]; simp [nV]
        have v12 := hex1.vl (vsome (fX11_o hV))
        have l13 := hex1.lt (fX11_o hV)
        have s14 := fX11_x hex1 hV
        have v15 := hex1.vl (vsome (fX7_o (fX11_queue_s hV)))
        have l16 := hex1.lt (fX7_o (fX11_queue_s hV))
        have s17 := fX7_x hex1 (fX11_queue_s hV)
        have hag := fun k hk => (hag1 k (hex.lt hk)).trans (hag k hk)
        have hex := hex.tr hex1
        refine gx_dupR C dX11_write_30 ?_
        refine gx_aload_n C hl dX11_write_31 rfl ?_
        refine gx_getF C G rfl l13 (fo10_4 (fX11_c s14)) (fX11_queue s14) uw_219 (fun _ h9 => h9) dX11_write_32 ?_
        refine gx_getI C G rfl (fX7_o (fX11_queue_s s14)) (fo6_6 (fX7_c (fX11_queue_s s14))) uw_160 (fun _ h9 => h9) dX11_write_35 ?_
        have r18 := G.r (o + 28) 6
        refine gx_iload_n C hl dX11_write_38 rfl ?_
        refine gx_iload_n C hl dX11_write_39 rfl ?_
        refine gx_aload_n C hl dX11_write_40 rfl ?_
        refine gx_getI C G rfl l13 (fo10_6 (fX11_c s14)) uw_221 (fun _ h9 => h9) dX11_write_41 ?_
        have r19 := G.r o 6
        refine gx_iload_n C hl dX11_write_44 rfl ?_
        refine gx_callI C G hl hml (c_X10_init l D cy ad nlU10 (by have := ntU10; omega) r18 rx1 rx2 r19 rx3 h) rfl uw_408 uw_406 uw_407 uw_12 rfl hd_X10_init ⟨Nat.le_of_ble_eq_true rfl, Nat.le_of_ble_eq_true rfl⟩ ⟨Nat.le_of_ble_eq_true rfl, Nat.le_of_ble_eq_true rfl⟩ rfl rfl (hw_le ad [.inr (some U10.1), .inr (some (o + 28))] rfl (Nat.le_of_ble_eq_true rfl)) dX11_write_45 (kkV (fun S20 H locs h G => ?_))
        refine gx_callV C G hl hml (c_X7_add l D cy ad s17 (vsome nlU10) h) rfl l16 (by rw [(fX7_c s17)]; rfl) (by rw [(fX7_c s17)]; decide) rfl uw_369 uw_366 uw_367 uw_368 uw_6 hd_X7_add ⟨Nat.le_of_ble_eq_true rfl, Nat.le_of_ble_eq_true rfl⟩ ⟨Nat.le_of_ble_eq_true rfl, Nat.le_of_ble_eq_true rfl⟩ rfl rfl (hw_le ad [] rfl (Nat.le_of_ble_eq_true rfl)) dX11_write_48 (kkI (fun t22 S21 H locs rt22 h G => ?_))
        exact gx_iretA C G hag hex hret rt22 h dX11_write_51 ⟨Nat.le_of_ble_eq_true rfl, Nat.le_of_ble_eq_true rfl⟩
      · have h := h.2 c9
        refine gx_iconst C dX11_write_21 ?_
        exact gx_iretA C G hag hex hret (show rng (-1) by decide) h dX11_write_22 ⟨Nat.le_of_ble_eq_true rfl, Nat.le_of_ble_eq_true rfl⟩
def PT_X11_mask (V : Vt) (o : Nat) (x1 : Int) (x2 : Int) (x3 : Int) (x4 : Int) (S : Me) (Q : Int → Vt → Me → Prop) : Prop := PT_X11_isAsker V x1 S (fun t2 S1 => ((t2 = 0 → Q (-1) V S1) ∧ (¬ t2 = 0 → PT_X11_isAddress V x2 S1 (fun t5 S4 => ((t5 = 0 → Q (-1) V S4) ∧ (¬ t5 = 0 → PT_X11_isOctet V x3 S4 (fun t8 S7 => ((t8 = 0 → Q (-1) V S7) ∧ (¬ t8 = 0 → PT_X11_isOctet V x4 S7 (fun t11 S10 => ((¬ t11 = 0 → ∀ U13 : Vt, U13 = V → ∀ V : Vt, V = nV U13 2 0 → ∀ S14 : Me, S14 = nS U13 S10 → PT_X3_init V U13.1 (S14.1 (o + 28) 6) x1 x2 (S14.1 o 6) x3 x4 S14 (fun S23 => PT_X7_add V (o + 28) (some U13.1) S23 (fun t25 S24 => Q t25 V S24))) ∧ (t11 = 0 → Q (-1) V S10))))))))))))
theorem hd_X11_mask : yX11_mask.cls ≠ "java/lang/invoke/MethodHandle" ∧ yX11_mask.cls ≠ "java/lang/invoke/VarHandle" ∧ (parseMethodDescriptor yX11_mask.desc).map (fun d => d.parameters.length) = some 4 := by decide +kernel
set_option maxHeartbeats 4000000 in
set_option maxRecDepth 100000 in
theorem c_X11_mask (l : Launch) (D : va_G) (cy : ClassId × ClassId × ClassId × ClassId) (ad : Nat → Nat) {V : Vt} {S : Me} {o : Nat} {x1 : Int} {x2 : Int} {x3 : Int} {x4 : Int} (hV : fX11 V o) (rx1 : rng x1) (rx2 : rng x2) (rx3 : rng x3) (rx4 : rng x4) {Q : Int → Vt → Me → Prop} (h : PT_X11_mask V o x1 x2 x3 x4 S Q) : KA l D cy yX11_mask cX11_mask 5 (Option.some Jvm.ClassFile.FieldType.int) 5 115 1 13 ad V S [.inr (some o), .inl x1, .inl x2, .inl x3, .inl x4] (aI Q) := by
  refine KA.of (by decide) rfl (Nat.le_of_ble_eq_true rfl) (own := RX11) (fun p e s m args below meth c A ls H locs eA C hret hml hmn hl G => ?_)
  have hl : lo ad ls [some (.inr (some o)), some (.inl x1), some (.inl x2), some (.inl x3), some (.inl x4)] := hl
  obtain ⟨ad0, ead0⟩ : ∃ q : Nat → Nat, q = ad := ⟨_, rfl⟩
  obtain ⟨V0, eV0⟩ : ∃ q : Vt, q = V := ⟨_, rfl⟩
  have hag : ∀ k, k < V0.1 → ad k = ad0 k := fun k _ => by rw [ead0]
  have hex : exV V0 V := by rw [eV0]; exact exV.rf V
  rw [← ead0, ← eV0]
  clear eV0 ead0
  clear eA
  unfold PT_X11_mask at h
  refine gx_iload_n C hl dX11_mask_0 rfl ?_
  refine gx_callS C G hl hml (c_X11_isAsker l D cy ad rx1 h) uw_285 uw_283 uw_284 uw_1 hd_X11_isAsker ⟨Nat.le_of_ble_eq_true rfl, Nat.le_of_ble_eq_true rfl⟩ ⟨Nat.le_of_ble_eq_true rfl, Nat.le_of_ble_eq_true rfl⟩ rfl rfl (hw_le ad [] rfl (Nat.le_of_ble_eq_true rfl)) dX11_mask_1 (kkI (fun t2 S1 H locs rt2 h G => ?_))
  refine gx_if_eq (tgt := 29) C rt2 dX11_mask_4 (by decide) (fun c3 => ?_) (fun c3 => ?_)
  · have h := h.1 c3
    refine gx_iconst C dX11_mask_29 ?_
    exact gx_iretA C G hag hex hret (show rng (-1) by decide) h dX11_mask_30 ⟨Nat.le_of_ble_eq_true rfl, Nat.le_of_ble_eq_true rfl⟩
  · have h := h.2 c3
    refine gx_iload_n C hl dX11_mask_7 rfl ?_
    refine gx_callS C G hl hml (c_X11_isAddress l D cy ad rx2 h) uw_288 uw_286 uw_287 uw_1 hd_X11_isAddress ⟨Nat.le_of_ble_eq_true rfl, Nat.le_of_ble_eq_true rfl⟩ ⟨Nat.le_of_ble_eq_true rfl, Nat.le_of_ble_eq_true rfl⟩ rfl rfl (hw_le ad [] rfl (Nat.le_of_ble_eq_true rfl)) dX11_mask_8 (kkI (fun t5 S4 H locs rt5 h G => ?_))
    refine gx_if_eq (tgt := 29) C rt5 dX11_mask_11 (by decide) (fun c6 => ?_) (fun c6 => ?_)
    · have h := h.1 c6
      refine gx_iconst C dX11_mask_29 ?_
      exact gx_iretA C G hag hex hret (show rng (-1) by decide) h dX11_mask_30 ⟨Nat.le_of_ble_eq_true rfl, Nat.le_of_ble_eq_true rfl⟩
    · have h := h.2 c6
      refine gx_iload_n C hl dX11_mask_14 rfl ?_
      refine gx_callS C G hl hml (c_X11_isOctet l D cy ad rx3 h) uw_403 uw_401 uw_402 uw_1 hd_X11_isOctet ⟨Nat.le_of_ble_eq_true rfl, Nat.le_of_ble_eq_true rfl⟩ ⟨Nat.le_of_ble_eq_true rfl, Nat.le_of_ble_eq_true rfl⟩ rfl rfl (hw_le ad [] rfl (Nat.le_of_ble_eq_true rfl)) dX11_mask_15 (kkI (fun t8 S7 H locs rt8 h G => ?_))
      refine gx_if_eq (tgt := 29) C rt8 dX11_mask_18 (by decide) (fun c9 => ?_) (fun c9 => ?_)
      · have h := h.1 c9
        refine gx_iconst C dX11_mask_29 ?_
        exact gx_iretA C G hag hex hret (show rng (-1) by decide) h dX11_mask_30 ⟨Nat.le_of_ble_eq_true rfl, Nat.le_of_ble_eq_true rfl⟩
      · have h := h.2 c9
        refine gx_iload C hl dX11_mask_21 rfl ?_
        refine gx_callS C G hl hml (c_X11_isOctet l D cy ad rx4 h) uw_403 uw_401 uw_402 uw_1 hd_X11_isOctet ⟨Nat.le_of_ble_eq_true rfl, Nat.le_of_ble_eq_true rfl⟩ ⟨Nat.le_of_ble_eq_true rfl, Nat.le_of_ble_eq_true rfl⟩ rfl rfl (hw_le ad [] rfl (Nat.le_of_ble_eq_true rfl)) dX11_mask_23 (kkI (fun t11 S10 H locs rt11 h G => ?_))
        refine gx_if_ne (tgt := 31) C rt11 dX11_mask_26 (by decide) (fun c12 => ?_) (fun c12 => ?_)
        · have h := h.1 c12
          refine gx_aload_n C hl dX11_mask_31 rfl ?_
          refine gx_getF C G rfl (fX11_o hV) (fo10_4 (fX11_c hV)) (fX11_queue hV) uw_219 (fun _ h9 => h9) dX11_mask_32 ?_
          obtain ⟨U13, rfl⟩ : ∃ q : Vt, q = V := ⟨_, rfl⟩
          have h := h U13 rfl
          refine gx_new C G hl (okP_S (okv_R (vsome (fX11_o hV))) (okP_S (okv_I rx1) (okP_S (okv_I rx2) (okP_S (okv_I rx3) (okP_S (okv_I rx4) okP_0))))) (t := 2) rfl iu2 tyX3 tyX3_ok (df_2 ad) (by decide) uw_431 uw_432 uw_13 (Nat.le_of_ble_eq_true rfl) (Nat.le_of_ble_eq_true rfl) [.inr (some (o + 28))] rfl (okS_S (okv_R (vsome (fX7_o (fX11_queue_s hV)))) okS_0) dX11_mask_35 (fun ad V S14 H eV eS hag1 hex1 hl G => ?_)
          have h := h V eV S14 eS
          have nlU13 : U13.1 < V.1 := by rw [eV]; exact Nat.lt_succ_self _
          have ntU13 : V.2.1 U13.1 = 2 := by rw [eV]; simp [nV]
          have v15 := hex1.vl (vsome (fX11_o hV))
          have l16 := hex1.lt (fX11_o hV)
          have s17 := fX11_x hex1 hV
          have v18 := hex1.vl (vsome (fX7_o (fX11_queue_s hV)))
          have l19 := hex1.lt (fX7_o (fX11_queue_s hV))
          have s20 := fX7_x hex1 (fX11_queue_s hV)
          have hag := fun k hk => (hag1 k (hex.lt hk)).trans (hag k hk)
          have hex := hex.tr hex1
          refine gx_dupR C dX11_mask_38 ?_
          refine gx_aload_n C hl dX11_mask_39 rfl ?_
          refine gx_getF C G rfl l16 (fo10_4 (fX11_c s17)) (fX11_queue s17) uw_219 (fun _ h9 => h9) dX11_mask_40 ?_
          refine gx_getI C G rfl (fX7_o (fX11_queue_s s17)) (fo6_6 (fX7_c (fX11_queue_s s17))) uw_160 (fun _ h9 => h9) dX11_mask_43 ?_
          have r21 := G.r (o + 28) 6
          refine gx_iload_n C hl dX11_mask_46 rfl ?_
          refine gx_iload_n C hl dX11_mask_47 rfl ?_
          refine gx_aload_n C hl dX11_mask_48 rfl ?_
          refine gx_getI C G rfl l16 (fo10_6 (fX11_c s17)) uw_221 (fun _ h9 => h9) dX11_mask_49 ?_
          have r22 := G.r o 6
          refine gx_iload_n C hl dX11_mask_52 rfl ?_
          refine gx_iload C hl dX11_mask_53 rfl ?_
          refine gx_callI C G hl hml (c_X3_init l D cy ad nlU13 (by have := ntU13; omega) r21 rx1 rx2 r22 rx3 rx4 h) rfl uw_435 uw_433 uw_434 uw_13 rfl hd_X3_init ⟨Nat.le_of_ble_eq_true rfl, Nat.le_of_ble_eq_true rfl⟩ ⟨Nat.le_of_ble_eq_true rfl, Nat.le_of_ble_eq_true rfl⟩ rfl rfl (hw_le ad [.inr (some U13.1), .inr (some (o + 28))] rfl (Nat.le_of_ble_eq_true rfl)) dX11_mask_55 (kkV (fun S23 H locs h G => ?_))
          refine gx_callV C G hl hml (c_X7_add l D cy ad s20 (vsome nlU13) h) rfl l19 (by rw [(fX7_c s20)]; rfl) (by rw [(fX7_c s20)]; decide) rfl uw_369 uw_366 uw_367 uw_368 uw_6 hd_X7_add ⟨Nat.le_of_ble_eq_true rfl, Nat.le_of_ble_eq_true rfl⟩ ⟨Nat.le_of_ble_eq_true rfl, Nat.le_of_ble_eq_true rfl⟩ rfl rfl (hw_le ad [] rfl (Nat.le_of_ble_eq_true rfl)) dX11_mask_58 (kkI (fun t25 S24 H locs rt25 h G => ?_))
          exact gx_iretA C G hag hex hret rt25 h dX11_mask_61 ⟨Nat.le_of_ble_eq_true rfl, Nat.le_of_ble_eq_true rfl⟩
        · have h := h.2 c12
          refine gx_iconst C dX11_mask_29 ?_
          exact gx_iretA C G hag hex hret (show rng (-1) by decide) h dX11_mask_30 ⟨Nat.le_of_ble_eq_true rfl, Nat.le_of_ble_eq_true rfl⟩
def PT_X11_swap (V : Vt) (o : Nat) (x1 : Int) (x2 : Int) (x3 : Int) (S : Me) (Q : Int → Vt → Me → Prop) : Prop := PT_X11_isAsker V x1 S (fun t2 S1 => ((t2 = 0 → Q (-1) V S1) ∧ (¬ t2 = 0 → PT_X11_isAddress V x2 S1 (fun t5 S4 => ((t5 = 0 → Q (-1) V S4) ∧ (¬ t5 = 0 → PT_X11_isOctet V x3 S4 (fun t8 S7 => ((¬ t8 = 0 → ∀ U10 : Vt, U10 = V → ∀ V : Vt, V = nV U10 8 0 → ∀ S11 : Me, S11 = nS U10 S7 → PT_X9_init V U10.1 (S11.1 (o + 28) 6) x1 x2 (S11.1 o 6) x3 S11 (fun S20 => PT_X7_add V (o + 28) (some U10.1) S20 (fun t22 S21 => Q t22 V S21))) ∧ (t8 = 0 → Q (-1) V S7)))))))))
theorem hd_X11_swap : yX11_swap.cls ≠ "java/lang/invoke/MethodHandle" ∧ yX11_swap.cls ≠ "java/lang/invoke/VarHandle" ∧ (parseMethodDescriptor yX11_swap.desc).map (fun d => d.parameters.length) = some 3 := by decide +kernel
set_option maxHeartbeats 4000000 in
set_option maxRecDepth 100000 in
theorem c_X11_swap (l : Launch) (D : va_G) (cy : ClassId × ClassId × ClassId × ClassId) (ad : Nat → Nat) {V : Vt} {S : Me} {o : Nat} {x1 : Int} {x2 : Int} {x3 : Int} (hV : fX11 V o) (rx1 : rng x1) (rx2 : rng x2) (rx3 : rng x3) {Q : Int → Vt → Me → Prop} (h : PT_X11_swap V o x1 x2 x3 S Q) : KA l D cy yX11_swap cX11_swap 4 (Option.some Jvm.ClassFile.FieldType.int) 5 114 1 12 ad V S [.inr (some o), .inl x1, .inl x2, .inl x3] (aI Q) := by
  refine KA.of (by decide) rfl (Nat.le_of_ble_eq_true rfl) (own := RX11) (fun p e s m args below meth c A ls H locs eA C hret hml hmn hl G => ?_)
  have hl : lo ad ls [some (.inr (some o)), some (.inl x1), some (.inl x2), some (.inl x3)] := hl
  obtain ⟨ad0, ead0⟩ : ∃ q : Nat → Nat, q = ad := ⟨_, rfl⟩
  obtain ⟨V0, eV0⟩ : ∃ q : Vt, q = V := ⟨_, rfl⟩
  have hag : ∀ k, k < V0.1 → ad k = ad0 k := fun k _ => by rw [ead0]
  have hex : exV V0 V := by rw [eV0]; exact exV.rf V
  rw [← ead0, ← eV0]
  clear eV0 ead0
  clear eA
  unfold PT_X11_swap at h
  refine gx_iload_n C hl dX11_swap_0 rfl ?_
  refine gx_callS C G hl hml (c_X11_isAsker l D cy ad rx1 h) uw_285 uw_283 uw_284 uw_1 hd_X11_isAsker ⟨Nat.le_of_ble_eq_true rfl, Nat.le_of_ble_eq_true rfl⟩ ⟨Nat.le_of_ble_eq_true rfl, Nat.le_of_ble_eq_true rfl⟩ rfl rfl (hw_le ad [] rfl (Nat.le_of_ble_eq_true rfl)) dX11_swap_1 (kkI (fun t2 S1 H locs rt2 h G => ?_))
  refine gx_if_eq (tgt := 21) C rt2 dX11_swap_4 (by decide) (fun c3 => ?_) (fun c3 => ?_)
  · have h := h.1 c3
    refine gx_iconst C dX11_swap_21 ?_
    exact gx_iretA C G hag hex hret (show rng (-1) by decide) h dX11_swap_22 ⟨Nat.le_of_ble_eq_true rfl, Nat.le_of_ble_eq_true rfl⟩
  · have h := h.2 c3
    refine gx_iload_n C hl dX11_swap_7 rfl ?_
    refine gx_callS C G hl hml (c_X11_isAddress l D cy ad rx2 h) uw_288 uw_286 uw_287 uw_1 hd_X11_isAddress ⟨Nat.le_of_ble_eq_true rfl, Nat.le_of_ble_eq_true rfl⟩ ⟨Nat.le_of_ble_eq_true rfl, Nat.le_of_ble_eq_true rfl⟩ rfl rfl (hw_le ad [] rfl (Nat.le_of_ble_eq_true rfl)) dX11_swap_8 (kkI (fun t5 S4 H locs rt5 h G => ?_))
    refine gx_if_eq (tgt := 21) C rt5 dX11_swap_11 (by decide) (fun c6 => ?_) (fun c6 => ?_)
    · have h := h.1 c6
      refine gx_iconst C dX11_swap_21 ?_
      exact gx_iretA C G hag hex hret (show rng (-1) by decide) h dX11_swap_22 ⟨Nat.le_of_ble_eq_true rfl, Nat.le_of_ble_eq_true rfl⟩
    · have h := h.2 c6
      refine gx_iload_n C hl dX11_swap_14 rfl ?_
      refine gx_callS C G hl hml (c_X11_isOctet l D cy ad rx3 h) uw_403 uw_401 uw_402 uw_1 hd_X11_isOctet ⟨Nat.le_of_ble_eq_true rfl, Nat.le_of_ble_eq_true rfl⟩ ⟨Nat.le_of_ble_eq_true rfl, Nat.le_of_ble_eq_true rfl⟩ rfl rfl (hw_le ad [] rfl (Nat.le_of_ble_eq_true rfl)) dX11_swap_15 (kkI (fun t8 S7 H locs rt8 h G => ?_))
      refine gx_if_ne (tgt := 23) C rt8 dX11_swap_18 (by decide) (fun c9 => ?_) (fun c9 => ?_)
      · have h := h.1 c9
        refine gx_aload_n C hl dX11_swap_23 rfl ?_
        refine gx_getF C G rfl (fX11_o hV) (fo10_4 (fX11_c hV)) (fX11_queue hV) uw_219 (fun _ h9 => h9) dX11_swap_24 ?_
        obtain ⟨U10, rfl⟩ : ∃ q : Vt, q = V := ⟨_, rfl⟩
        have h := h U10 rfl
        refine gx_new C G hl (okP_S (okv_R (vsome (fX11_o hV))) (okP_S (okv_I rx1) (okP_S (okv_I rx2) (okP_S (okv_I rx3) okP_0)))) (t := 8) rfl iu8 tyX9 tyX9_ok (df_8 ad) (by decide) uw_457 uw_458 uw_14 (Nat.le_of_ble_eq_true rfl) (Nat.le_of_ble_eq_true rfl) [.inr (some (o + 28))] rfl (okS_S (okv_R (vsome (fX7_o (fX11_queue_s hV)))) okS_0) dX11_swap_27 (fun ad V S11 H eV eS hag1 hex1 hl G => ?_)
        have h := h V eV S11 eS
        have nlU10 : U10.1 < V.1 := by rw [eV]; exact Nat.lt_succ_self _
        have ntU10 : V.2.1 U10.1 = 8 := by rw [eV]; simp [nV]
        have v12 := hex1.vl (vsome (fX11_o hV))
        have l13 := hex1.lt (fX11_o hV)
        have s14 := fX11_x hex1 hV
        have v15 := hex1.vl (vsome (fX7_o (fX11_queue_s hV)))
        have l16 := hex1.lt (fX7_o (fX11_queue_s hV))
        have s17 := fX7_x hex1 (fX11_queue_s hV)
        have hag := fun k hk => (hag1 k (hex.lt hk)).trans (hag k hk)
        have hex := hex.tr hex1
        refine gx_dupR C dX11_swap_30 ?_
        refine gx_aload_n C hl dX11_swap_31 rfl ?_
        refine gx_getF C G rfl l13 (fo10_4 (fX11_c s14)) (fX11_queue s14) uw_219 (fun _ h9 => h9) dX11_swap_32 ?_
        refine gx_getI C G rfl (fX7_o (fX11_queue_s s14)) (fo6_6 (fX7_c (fX11_queue_s s14))) uw_160 (fun _ h9 => h9) dX11_swap_35 ?_
        have r18 := G.r (o + 28) 6
        refine gx_iload_n C hl dX11_swap_38 rfl ?_
        refine gx_iload_n C hl dX11_swap_39 rfl ?_
        refine gx_aload_n C hl dX11_swap_40 rfl ?_
        refine gx_getI C G rfl l13 (fo10_6 (fX11_c s14)) uw_221 (fun _ h9 => h9) dX11_swap_41 ?_
        have r19 := G.r o 6
        refine gx_iload_n C hl dX11_swap_44 rfl ?_
        refine gx_callI C G hl hml (c_X9_init l D cy ad nlU10 (by have := ntU10; omega) r18 rx1 rx2 r19 rx3 h) rfl uw_461 uw_459 uw_460 uw_14 rfl hd_X9_init ⟨Nat.le_of_ble_eq_true rfl, Nat.le_of_ble_eq_true rfl⟩ ⟨Nat.le_of_ble_eq_true rfl, Nat.le_of_ble_eq_true rfl⟩ rfl rfl (hw_le ad [.inr (some U10.1), .inr (some (o + 28))] rfl (Nat.le_of_ble_eq_true rfl)) dX11_swap_45 (kkV (fun S20 H locs h G => ?_))
        refine gx_callV C G hl hml (c_X7_add l D cy ad s17 (vsome nlU10) h) rfl l16 (by rw [(fX7_c s17)]; rfl) (by rw [(fX7_c s17)]; decide) rfl uw_369 uw_366 uw_367 uw_368 uw_6 hd_X7_add ⟨Nat.le_of_ble_eq_true rfl, Nat.le_of_ble_eq_true rfl⟩ ⟨Nat.le_of_ble_eq_true rfl, Nat.le_of_ble_eq_true rfl⟩ rfl rfl (hw_le ad [] rfl (Nat.le_of_ble_eq_true rfl)) dX11_swap_48 (kkI (fun t22 S21 H locs rt22 h G => ?_))
        exact gx_iretA C G hag hex hret rt22 h dX11_swap_51 ⟨Nat.le_of_ble_eq_true rfl, Nat.le_of_ble_eq_true rfl⟩
      · have h := h.2 c9
        refine gx_iconst C dX11_swap_21 ?_
        exact gx_iretA C G hag hex hret (show rng (-1) by decide) h dX11_swap_22 ⟨Nat.le_of_ble_eq_true rfl, Nat.le_of_ble_eq_true rfl⟩
def PT_X11_fence (V : Vt) (o : Nat) (x1 : Int) (S : Me) (Q : Int → Vt → Me → Prop) : Prop := PT_X11_isAsker V x1 S (fun t2 S1 => ((¬ t2 = 0 → ∀ U4 : Vt, U4 = V → ∀ V : Vt, V = nV U4 1 0 → ∀ S5 : Me, S5 = nS U4 S1 → PT_X2_init V U4.1 (S5.1 (o + 28) 6) x1 (S5.1 o 6) S5 (fun S14 => PT_X7_add V (o + 28) (some U4.1) S14 (fun t16 S15 => Q t16 V S15))) ∧ (t2 = 0 → Q (-1) V S1)))
theorem hd_X11_fence : yX11_fence.cls ≠ "java/lang/invoke/MethodHandle" ∧ yX11_fence.cls ≠ "java/lang/invoke/VarHandle" ∧ (parseMethodDescriptor yX11_fence.desc).map (fun d => d.parameters.length) = some 1 := by decide +kernel
set_option maxHeartbeats 4000000 in
set_option maxRecDepth 100000 in
theorem c_X11_fence (l : Launch) (D : va_G) (cy : ClassId × ClassId × ClassId × ClassId) (ad : Nat → Nat) {V : Vt} {S : Me} {o : Nat} {x1 : Int} (hV : fX11 V o) (rx1 : rng x1) {Q : Int → Vt → Me → Prop} (h : PT_X11_fence V o x1 S Q) : KA l D cy yX11_fence cX11_fence 2 (Option.some Jvm.ClassFile.FieldType.int) 4 87 1 11 ad V S [.inr (some o), .inl x1] (aI Q) := by
  refine KA.of (by decide) rfl (Nat.le_of_ble_eq_true rfl) (own := RX11) (fun p e s m args below meth c A ls H locs eA C hret hml hmn hl G => ?_)
  have hl : lo ad ls [some (.inr (some o)), some (.inl x1)] := hl
  obtain ⟨ad0, ead0⟩ : ∃ q : Nat → Nat, q = ad := ⟨_, rfl⟩
  obtain ⟨V0, eV0⟩ : ∃ q : Vt, q = V := ⟨_, rfl⟩
  have hag : ∀ k, k < V0.1 → ad k = ad0 k := fun k _ => by rw [ead0]
  have hex : exV V0 V := by rw [eV0]; exact exV.rf V
  rw [← ead0, ← eV0]
  clear eV0 ead0
  clear eA
  unfold PT_X11_fence at h
  refine gx_iload_n C hl dX11_fence_0 rfl ?_
  refine gx_callS C G hl hml (c_X11_isAsker l D cy ad rx1 h) uw_285 uw_283 uw_284 uw_1 hd_X11_isAsker ⟨Nat.le_of_ble_eq_true rfl, Nat.le_of_ble_eq_true rfl⟩ ⟨Nat.le_of_ble_eq_true rfl, Nat.le_of_ble_eq_true rfl⟩ rfl rfl (hw_le ad [] rfl (Nat.le_of_ble_eq_true rfl)) dX11_fence_1 (kkI (fun t2 S1 H locs rt2 h G => ?_))
  refine gx_if_ne (tgt := 9) C rt2 dX11_fence_4 (by decide) (fun c3 => ?_) (fun c3 => ?_)
  · have h := h.1 c3
    refine gx_aload_n C hl dX11_fence_9 rfl ?_
    refine gx_getF C G rfl (fX11_o hV) (fo10_4 (fX11_c hV)) (fX11_queue hV) uw_219 (fun _ h9 => h9) dX11_fence_10 ?_
    obtain ⟨U4, rfl⟩ : ∃ q : Vt, q = V := ⟨_, rfl⟩
    have h := h U4 rfl
    refine gx_new C G hl (okP_S (okv_R (vsome (fX11_o hV))) (okP_S (okv_I rx1) okP_0)) (t := 1) rfl iu1 tyX2 tyX2_ok (df_1 ad) (by decide) uw_480 uw_481 uw_15 (Nat.le_of_ble_eq_true rfl) (Nat.le_of_ble_eq_true rfl) [.inr (some (o + 28))] rfl (okS_S (okv_R (vsome (fX7_o (fX11_queue_s hV)))) okS_0) dX11_fence_13 (fun ad V S5 H eV eS hag1 hex1 hl G => ?_)
    have h := h V eV S5 eS
    have nlU4 : U4.1 < V.1 := by rw [eV]; exact Nat.lt_succ_self _
    have ntU4 : V.2.1 U4.1 = 1 := by rw [eV]; simp [nV]
    have v6 := hex1.vl (vsome (fX11_o hV))
    have l7 := hex1.lt (fX11_o hV)
    have s8 := fX11_x hex1 hV
    have v9 := hex1.vl (vsome (fX7_o (fX11_queue_s hV)))
    have l10 := hex1.lt (fX7_o (fX11_queue_s hV))
    have s11 := fX7_x hex1 (fX11_queue_s hV)
    have hag := fun k hk => (hag1 k (hex.lt hk)).trans (hag k hk)
    have hex := hex.tr hex1
    refine gx_dupR C dX11_fence_16 ?_
    refine gx_aload_n C hl dX11_fence_17 rfl ?_
    refine gx_getF C G rfl l7 (fo10_4 (fX11_c s8)) (fX11_queue s8) uw_219 (fun _ h9 => h9) dX11_fence_18 ?_
    refine gx_getI C G rfl (fX7_o (fX11_queue_s s8)) (fo6_6 (fX7_c (fX11_queue_s s8))) uw_160 (fun _ h9 => h9) dX11_fence_21 ?_
    have r12 := G.r (o + 28) 6
    refine gx_iload_n C hl dX11_fence_24 rfl ?_
    refine gx_aload_n C hl dX11_fence_25 rfl ?_
    refine gx_getI C G rfl l7 (fo10_6 (fX11_c s8)) uw_221 (fun _ h9 => h9) dX11_fence_26 ?_
    have r13 := G.r o 6
    refine gx_callI C G hl hml (c_X2_init l D cy ad nlU4 (by have := ntU4; omega) r12 rx1 r13 h) rfl uw_484 uw_482 uw_483 uw_15 rfl hd_X2_init ⟨Nat.le_of_ble_eq_true rfl, Nat.le_of_ble_eq_true rfl⟩ ⟨Nat.le_of_ble_eq_true rfl, Nat.le_of_ble_eq_true rfl⟩ rfl rfl (hw_le ad [.inr (some U4.1), .inr (some (o + 28))] rfl (Nat.le_of_ble_eq_true rfl)) dX11_fence_29 (kkV (fun S14 H locs h G => ?_))
    refine gx_callV C G hl hml (c_X7_add l D cy ad s11 (vsome nlU4) h) rfl l10 (by rw [(fX7_c s11)]; rfl) (by rw [(fX7_c s11)]; decide) rfl uw_369 uw_366 uw_367 uw_368 uw_6 hd_X7_add ⟨Nat.le_of_ble_eq_true rfl, Nat.le_of_ble_eq_true rfl⟩ ⟨Nat.le_of_ble_eq_true rfl, Nat.le_of_ble_eq_true rfl⟩ rfl rfl (hw_le ad [] rfl (Nat.le_of_ble_eq_true rfl)) dX11_fence_32 (kkI (fun t16 S15 H locs rt16 h G => ?_))
    exact gx_iretA C G hag hex hret rt16 h dX11_fence_35 ⟨Nat.le_of_ble_eq_true rfl, Nat.le_of_ble_eq_true rfl⟩
  · have h := h.2 c3
    refine gx_iconst C dX11_fence_7 ?_
    exact gx_iretA C G hag hex hret (show rng (-1) by decide) h dX11_fence_8 ⟨Nat.le_of_ble_eq_true rfl, Nat.le_of_ble_eq_true rfl⟩
def B_X11_make_22 (V : Vt) (o : Nat) (x1 : Int) (x2 : Int) (x3 : Int) (y4 : Option Nat) (S : Me) (Q : Int → Vt → Me → Prop) : Prop := ((x3 ≤ 60 → ((0 ≤ x3 → (0 ≤ x3 ∧ x3 ≤ 60) ∧ ∀ U3 : Vt, U3 = V → ∀ V : Vt, V = nV U3 12 (Int.toNat x3) → ∀ S4 : Me, S4 = nS U3 S → ((¬ x2 = 3 → ∃ z12 : Nat, y4 = some z12 ∧ V.2.1 z12 = 7 ∧ PT_X8_hold V z12 none (some U3.1) 0 S4 (fun S11 => Q 0 V S11)) ∧ (x2 = 3 → ∃ z14 : Nat, y4 = some z14 ∧ V.2.1 z14 = 7 ∧ PT_X8_hold V z14 none (some U3.1) 1 S4 (fun S13 => Q 0 V S13)))) ∧ (¬ 0 ≤ x3 → Q (-14) V S))) ∧ (¬ x3 ≤ 60 → Q (-1) V S))
def PT_X11_make (V : Vt) (o : Nat) (x1 : Int) (x2 : Int) (x3 : Int) (S : Me) (Q : Int → Vt → Me → Prop) : Prop := PT_X11_findShelf V o x1 S (fun t16 S15 => ((t16 = none → Q (-1) V S15) ∧ (¬ t16 = none → ((x2 = 3 → B_X11_make_22 V o x1 x2 x3 t16 S15 Q) ∧ (¬ x2 = 3 → ((¬ x2 = 4 → Q (-1) V S15) ∧ (x2 = 4 → B_X11_make_22 V o x1 x2 x3 t16 S15 Q)))))))
theorem hd_X11_make : yX11_make.cls ≠ "java/lang/invoke/MethodHandle" ∧ yX11_make.cls ≠ "java/lang/invoke/VarHandle" ∧ (parseMethodDescriptor yX11_make.desc).map (fun d => d.parameters.length) = some 3 := by decide +kernel
set_option maxHeartbeats 4000000 in
set_option maxRecDepth 100000 in
theorem c_X11_make (l : Launch) (D : va_G) (cy : ClassId × ClassId × ClassId × ClassId) (ad : Nat → Nat) {V : Vt} {S : Me} {o : Nat} {x1 : Int} {x2 : Int} {x3 : Int} (hV : fX11 V o) (rx1 : rng x1) (rx2 : rng x2) (rx3 : rng x3) {Q : Int → Vt → Me → Prop} (h : PT_X11_make V o x1 x2 x3 S Q) : KA l D cy yX11_make cX11_make 5 (Option.some Jvm.ClassFile.FieldType.int) 1 23 1 60 ad V S [.inr (some o), .inl x1, .inl x2, .inl x3] (aI Q) := by
  refine KA.of (by decide) rfl (Nat.le_of_ble_eq_true rfl) (own := RX11) (fun p e s m args below meth c A ls H locs eA C hret hml hmn hl G => ?_)
  have hl : lo ad ls [some (.inr (some o)), some (.inl x1), some (.inl x2), some (.inl x3), none] := hl
  obtain ⟨ad0, ead0⟩ : ∃ q : Nat → Nat, q = ad := ⟨_, rfl⟩
  obtain ⟨V0, eV0⟩ : ∃ q : Vt, q = V := ⟨_, rfl⟩
  have hag : ∀ k, k < V0.1 → ad k = ad0 k := fun k _ => by rw [ead0]
  have hex : exV V0 V := by rw [eV0]; exact exV.rf V
  rw [← ead0, ← eV0]
  clear eV0 ead0
  have b22 : ∀ (y4 : Option Nat) (S : Me) (H : Heap) (locs : List Loc) (ls : Array Slot), (∀ z, y4 = some z → z < V.1) → lo ad ls [some (.inr (some o)), some (.inl x1), some (.inl x2), some (.inl x3), some (.inr y4)] → Gy D cy A s.heap ad V S H locs → B_X11_make_22 V o x1 x2 x3 y4 S Q → W p l e (rmA 1 23 1 60) s m args below meth c H locs 0 0 (qmA below D cy ad0 V0 A args s 1 60 (aI Q)) (F0 m 22 ls []) := by
    intro y4 S H locs ls vy4 hl G h
    unfold B_X11_make_22 at h
    refine gx_iload_n C hl dX11_make_22 rfl ?_
    refine gx_bipush C dX11_make_23 (by decide) ?_
    refine gx_icmp_le (tgt := 30) C rx3 (show rng 60 by decide) dX11_make_25 (by decide) (fun c1 => ?_) (fun c1 => ?_)
    · have h := h.1 c1
      refine gx_iload_n C hl dX11_make_30 rfl ?_
      refine gx_if_ge (tgt := 37) C rx3 dX11_make_31 (by decide) (fun c2 => ?_) (fun c2 => ?_)
      · have h := h.1 c2
        refine gx_aload C hl dX11_make_37 rfl ?_
        refine gx_null (ad := ad) C dX11_make_39 ?_
        refine gx_iload_n C hl dX11_make_40 rfl ?_
        obtain ⟨h5, h⟩ := h
        obtain ⟨U3, rfl⟩ : ∃ q : Vt, q = V := ⟨_, rfl⟩
        have h := h U3 rfl
        refine gx_newa C G hl (okP_S (okv_R (vsome (fX11_o hV))) (okP_S (okv_I rx1) (okP_S (okv_I rx2) (okP_S (okv_I rx3) (okP_S (okv_R vy4) okP_0))))) rx3 60 h5.1 h5.2 (Nat.le_of_ble_eq_true rfl) (Nat.le_of_ble_eq_true rfl) (Nat.le_of_ble_eq_true rfl) [.inr none, .inr y4] rfl (okS_S (okv_R vnone) (okS_S (okv_R vy4) okS_0)) dX11_make_41 (fun ad V S4 H eV eS hag1 hex1 hl G => ?_)
        have h := h V eV S4 eS
        have nlU3 : U3.1 < V.1 := by rw [eV]; exact Nat.lt_succ_self _
        have ntU3 : V.2.1 U3.1 = 12 := by rw [eV]; simp [nV]
        have v6 := hex1.vl (vsome (fX11_o hV))
        have l7 := hex1.lt (fX11_o hV)
        have s8 := fX11_x hex1 hV
        have v9 := hex1.vl vy4
        have hag := fun k hk => (hag1 k (hex.lt hk)).trans (hag k hk)
        have hex := hex.tr hex1
        refine gx_iload_n C hl dX11_make_43 rfl ?_
        refine gx_iconst C dX11_make_44 ?_
        refine gx_icmp_ne (tgt := 52) C rx2 (show rng 3 by decide) dX11_make_45 (by decide) (fun c10 => ?_) (fun c10 => ?_)
        · have h := h.1 c10
          refine gx_iconst C dX11_make_52 ?_
          obtain ⟨z12, hz12, tz12, h⟩ := h
          have lz12 := (v9 z12 hz12)
          refine gx_callV C G hl hml (c_X8_hold l D cy ad lz12 tz12 vnone (vsome nlU3) (show rng 0 by decide) h) hz12 lz12 (by rw [tz12]; rfl) (by rw [tz12]; decide) rfl uw_752 uw_749 uw_750 uw_751 uw_8 hd_X8_hold ⟨Nat.le_of_ble_eq_true rfl, Nat.le_of_ble_eq_true rfl⟩ ⟨Nat.le_of_ble_eq_true rfl, Nat.le_of_ble_eq_true rfl⟩ rfl rfl (hw_le ad [] rfl (Nat.le_of_ble_eq_true rfl)) dX11_make_53 (kkV (fun S11 H locs h G => ?_))
          refine gx_iconst C dX11_make_56 ?_
          exact gx_iretA C G hag hex hret (show rng 0 by decide) h dX11_make_57 ⟨Nat.le_of_ble_eq_true rfl, Nat.le_of_ble_eq_true rfl⟩
        · have h := h.2 c10
          refine gx_iconst C dX11_make_48 ?_
          refine gx_goto (tgt := 53) C dX11_make_49 (by decide) ?_
          obtain ⟨z14, hz14, tz14, h⟩ := h
          have lz14 := (v9 z14 hz14)
          refine gx_callV C G hl hml (c_X8_hold l D cy ad lz14 tz14 vnone (vsome nlU3) (show rng 1 by decide) h) hz14 lz14 (by rw [tz14]; rfl) (by rw [tz14]; decide) rfl uw_752 uw_749 uw_750 uw_751 uw_8 hd_X8_hold ⟨Nat.le_of_ble_eq_true rfl, Nat.le_of_ble_eq_true rfl⟩ ⟨Nat.le_of_ble_eq_true rfl, Nat.le_of_ble_eq_true rfl⟩ rfl rfl (hw_le ad [] rfl (Nat.le_of_ble_eq_true rfl)) dX11_make_53 (kkV (fun S13 H locs h G => ?_))
          refine gx_iconst C dX11_make_56 ?_
          exact gx_iretA C G hag hex hret (show rng 0 by decide) h dX11_make_57 ⟨Nat.le_of_ble_eq_true rfl, Nat.le_of_ble_eq_true rfl⟩
      · have h := h.2 c2
        refine gx_bipush C dX11_make_34 (by decide) ?_
        exact gx_iretA C G hag hex hret (show rng (-14) by decide) h dX11_make_36 ⟨Nat.le_of_ble_eq_true rfl, Nat.le_of_ble_eq_true rfl⟩
    · have h := h.2 c1
      refine gx_iconst C dX11_make_28 ?_
      exact gx_iretA C G hag hex hret (show rng (-1) by decide) h dX11_make_29 ⟨Nat.le_of_ble_eq_true rfl, Nat.le_of_ble_eq_true rfl⟩
  clear eA
  unfold PT_X11_make at h
  refine gx_aload_n C hl dX11_make_0 rfl ?_
  refine gx_iload_n C hl dX11_make_1 rfl ?_
  refine gx_callV C G hl hml (c_X11_findShelf l D cy ad hV rx1 h) rfl (fX11_o hV) (by rw [(fX11_c hV)]; rfl) (by rw [(fX11_c hV)]; decide) rfl uw_748 uw_745 uw_747 up_13 uw_1 hd_X11_findShelf ⟨Nat.le_of_ble_eq_true rfl, Nat.le_of_ble_eq_true rfl⟩ ⟨Nat.le_of_ble_eq_true rfl, Nat.le_of_ble_eq_true rfl⟩ rfl rfl (hw_le ad [] rfl (Nat.le_of_ble_eq_true rfl)) dX11_make_2 (kkR (fun t16 S15 H locs vt16 h G => ?_))
  refine gx_astore C hl dX11_make_5 (Nat.le_of_ble_eq_true rfl) (PL' := [some (.inr (some o)), some (.inl x1), some (.inl x2), some (.inl x3), some (.inr t16)]) rfl (fun ls hl => ?_)
  refine gx_aload C hl dX11_make_7 rfl ?_
  refine gx_ifnull (tgt := 28) C dX11_make_9 (by decide) (fun c17 => ?_) (fun c17 => ?_)
  · have h := h.1 c17
    refine gx_iconst C dX11_make_28 ?_
    exact gx_iretA C G hag hex hret (show rng (-1) by decide) h dX11_make_29 ⟨Nat.le_of_ble_eq_true rfl, Nat.le_of_ble_eq_true rfl⟩
  · have h := h.2 c17
    refine gx_iload_n C hl dX11_make_12 rfl ?_
    refine gx_iconst C dX11_make_13 ?_
    refine gx_icmp_eq (tgt := 22) C rx2 (show rng 3 by decide) dX11_make_14 (by decide) (fun c18 => ?_) (fun c18 => ?_)
    · have h := h.1 c18
      exact b22 t16 S15 H locs ls vt16 hl G h
    · have h := h.2 c18
      refine gx_iload_n C hl dX11_make_17 rfl ?_
      refine gx_iconst C dX11_make_18 ?_
      refine gx_icmp_ne (tgt := 28) C rx2 (show rng 4 by decide) dX11_make_19 (by decide) (fun c19 => ?_) (fun c19 => ?_)
      · have h := h.1 c19
        refine gx_iconst C dX11_make_28 ?_
        exact gx_iretA C G hag hex hret (show rng (-1) by decide) h dX11_make_29 ⟨Nat.le_of_ble_eq_true rfl, Nat.le_of_ble_eq_true rfl⟩
      · have h := h.2 c19
        exact b22 t16 S15 H locs ls vt16 hl G h
