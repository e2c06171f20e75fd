def PT_X12_isLogged (V : Vt) (o : Nat) (x1 : Int) (S : Me) (Q : Int → Me → Prop) : Prop := ((x1 < 0 → Q 0 S) ∧ (¬ x1 < 0 → (((S.1 o 30) ≤ x1 → Q 0 S) ∧ (¬ (S.1 o 30) ≤ x1 → Q 1 S))))
theorem hd_X12_isLogged : yX12_isLogged.cls ≠ "java/lang/invoke/MethodHandle" ∧ yX12_isLogged.cls ≠ "java/lang/invoke/VarHandle" ∧ (parseMethodDescriptor yX12_isLogged.desc).map (fun d => d.parameters.length) = some 1 := by decide +kernel
set_option maxHeartbeats 4000000 in
set_option maxRecDepth 100000 in
theorem c_X12_isLogged (l : Launch) (D : va_G) (cy : ClassId × ClassId × ClassId × ClassId) (ad : Nat → Nat) {V : Vt} {S : Me} {o : Nat} {x1 : Int} (hV : fX12 V o) (rx1 : rng x1) {Q : Int → Me → Prop} (h : PT_X12_isLogged V o x1 S Q) : KM l D cy yX12_isLogged cX12_isLogged 2 (Option.some Jvm.ClassFile.FieldType.boolean) 0 0 ad V S [.inr (some o), .inl x1] (qI Q) := by
  refine KM.of (by decide) rfl (Nat.le_of_ble_eq_true rfl) (own := RX12) (fun p e s m args below meth c A ls H locs eA C hret hml hmn hl G => ?_)
  have hl : lo ad ls [some (.inr (some o)), some (.inl x1)] := hl
  clear eA
  unfold PT_X12_isLogged at h
  refine gx_iload_n C hl dX12_isLogged_0 rfl ?_
  refine gx_if_lt (tgt := 16) C rx1 dX12_isLogged_1 (by decide) (fun c1 => ?_) (fun c1 => ?_)
  · have h := h.1 c1
    refine gx_iconst C dX12_isLogged_16 ?_
    exact gx_zret C G hret (Or.inl rfl) h dX12_isLogged_17
  · have h := h.2 c1
    refine gx_iload_n C hl dX12_isLogged_4 rfl ?_
    refine gx_aload_n C hl dX12_isLogged_5 rfl ?_
    refine gx_getI C G rfl (fX12_o hV) (fo11_30 (fX12_c hV)) uw_985 (fun _ h9 => h9) dX12_isLogged_6 ?_
    have r2 := G.r o 30
    refine gx_icmp_ge (tgt := 16) C rx1 r2 dX12_isLogged_9 (by decide) (fun c3 => ?_) (fun c3 => ?_)
    · have h := h.1 c3
      refine gx_iconst C dX12_isLogged_16 ?_
      exact gx_zret C G hret (Or.inl rfl) h dX12_isLogged_17
    · have h := h.2 c3
      refine gx_iconst C dX12_isLogged_12 ?_
      refine gx_goto (tgt := 17) C dX12_isLogged_13 (by decide) ?_
      exact gx_zret C G hret (Or.inr rfl) h dX12_isLogged_17
def PT_X12_log (V : Vt) (o : Nat) (x1 : Int) (x2 : Int) (S : Me) (Q : Int → Me → Prop) : Prop := ∀ S1 : Me, S1 = sI S o 0 0 → PT_X12_isLogged V o x1 S1 (fun t3 S2 => ((t3 = 0 → Q (-1) S2) ∧ (¬ t3 = 0 → ((¬ (isin x2 0 4) = 0 → ((¬ x2 = 0 → ((¬ x2 = 1 → ((¬ x2 = 2 → ((¬ x2 = 3 → (0 ≤ x1 ∧ x1 < 400) ∧ Q (S2.1 (o + 21) (Int.toNat x1)) S2) ∧ (x2 = 3 → (0 ≤ x1 ∧ x1 < 400) ∧ Q (S2.1 (o + 20) (Int.toNat x1)) S2))) ∧ (x2 = 2 → (0 ≤ x1 ∧ x1 < 400) ∧ Q (S2.1 (o + 19) (Int.toNat x1)) S2))) ∧ (x2 = 1 → (0 ≤ x1 ∧ x1 < 400) ∧ Q (S2.1 (o + 18) (Int.toNat x1)) S2))) ∧ (x2 = 0 → (0 ≤ x1 ∧ x1 < 400) ∧ Q (S2.1 (o + 16) (Int.toNat x1)) S2))) ∧ ((isin x2 0 4) = 0 → Q (-1) S2)))))
theorem hd_X12_log : yX12_log.cls ≠ "java/lang/invoke/MethodHandle" ∧ yX12_log.cls ≠ "java/lang/invoke/VarHandle" ∧ (parseMethodDescriptor yX12_log.desc).map (fun d => d.parameters.length) = some 2 := by decide +kernel
set_option maxHeartbeats 4000000 in
set_option maxRecDepth 100000 in
theorem c_X12_log (l : Launch) (D : va_G) (cy : ClassId × ClassId × ClassId × ClassId) (ad : Nat → Nat) {V : Vt} {S : Me} {o : Nat} {x1 : Int} {x2 : Int} (hV : fX12 V o) (rx1 : rng x1) (rx2 : rng x2) {Q : Int → Me → Prop} (h : PT_X12_log V o x1 x2 S Q) : KM l D cy yX12_log cX12_log 3 (Option.some Jvm.ClassFile.FieldType.int) 1 25 ad V S [.inr (some o), .inl x1, .inl x2] (qI Q) := by
  refine KM.of (by decide) rfl (Nat.le_of_ble_eq_true rfl) (own := RX12) (fun p e s m args below meth c A ls H locs eA C hret hml hmn hl G => ?_)
  have hl : lo ad ls [some (.inr (some o)), some (.inl x1), some (.inl x2)] := hl
  clear eA
  unfold PT_X12_log at h
  refine gx_aload_n C hl dX12_log_0 rfl ?_
  refine gx_iconst C dX12_log_1 ?_
  refine gx_putI C G rfl (fX12_o hV) (fo11_0 (fX12_c hV)) (show rng 0 by decide) uw_955 (fun _ h9 => h9) dX12_log_2 (fun H locs G => ?_)
  obtain ⟨S1, eS1⟩ : ∃ q9 : Me, q9 = sI S o 0 0 := ⟨_, rfl⟩
  have h := h S1 eS1
  rw [← eS1] at G
  refine gx_aload_n C hl dX12_log_5 rfl ?_
  refine gx_iload_n C hl dX12_log_6 rfl ?_
  refine gx_callV C G hl hml (c_X12_isLogged l D cy ad hV rx1 h) rfl (fX12_o hV) (by rw [(fX12_c hV)]; rfl) (by rw [(fX12_c hV)]; decide) rfl uw_1305 uw_1302 uw_1304 up_41 uw_9 hd_X12_isLogged ⟨Nat.le_of_ble_eq_true rfl, Nat.le_of_ble_eq_true rfl⟩ ⟨Nat.zero_le _, Nat.zero_le _⟩ rfl rfl (hw_le ad [] rfl (Nat.le_of_ble_eq_true rfl)) dX12_log_7 (kkI (fun t3 S2 H locs rt3 h G => ?_))
  refine gx_if_eq (tgt := 25) C rt3 dX12_log_10 (by decide) (fun c4 => ?_) (fun c4 => ?_)
  · have h := h.1 c4
    refine gx_iconst C dX12_log_25 ?_
    exact gx_iret C G hret (show rng (-1) by decide) h dX12_log_26
  · have h := h.2 c4
    refine gx_iload_n C hl dX12_log_13 rfl ?_
    refine gx_i2l C rx2 dX12_log_14 ?_
    refine gx_lconst (x := 0) C (by decide) dX12_log_15 ?_
    refine gx_ldc2 (n := 4) C uw_1289 dX12_log_16 ?_
    refine gx_isIn C G hl hml rx2 (show rng 0 by decide) (show rng 4 by decide) uw_1115 ⟨Nat.le_of_ble_eq_true rfl, Nat.le_of_ble_eq_true rfl⟩ ⟨Nat.zero_le _, Nat.zero_le _⟩ (hw_le ad [] rfl (Nat.le_of_ble_eq_true rfl)) dX12_log_19 ?_
    refine gx_if_ne (tgt := 27) C (isin_r _ _ _) dX12_log_22 (by decide) (fun c5 => ?_) (fun c5 => ?_)
    · have h := h.1 c5
      refine gx_iload_n C hl dX12_log_27 rfl ?_
      refine gx_if_ne (tgt := 40) C rx2 dX12_log_28 (by decide) (fun c6 => ?_) (fun c6 => ?_)
      · have h := h.1 c6
        refine gx_iload_n C hl dX12_log_40 rfl ?_
        refine gx_iconst C dX12_log_41 ?_
        refine gx_icmp_ne (tgt := 54) C rx2 (show rng 1 by decide) dX12_log_42 (by decide) (fun c7 => ?_) (fun c7 => ?_)
        · have h := h.1 c7
          refine gx_iload_n C hl dX12_log_54 rfl ?_
          refine gx_iconst C dX12_log_55 ?_
          refine gx_icmp_ne (tgt := 68) C rx2 (show rng 2 by decide) dX12_log_56 (by decide) (fun c8 => ?_) (fun c8 => ?_)
          · have h := h.1 c8
            refine gx_iload_n C hl dX12_log_68 rfl ?_
            refine gx_iconst C dX12_log_69 ?_
            refine gx_icmp_ne (tgt := 82) C rx2 (show rng 3 by decide) dX12_log_70 (by decide) (fun c9 => ?_) (fun c9 => ?_)
            · have h := h.1 c9
              refine gx_aload_n C hl dX12_log_82 rfl ?_
              refine gx_getF C G rfl (fX12_o hV) (fo11_36 (fX12_c hV)) (fX12_logAsk hV) uw_991 (fun _ h9 => h9) dX12_log_83 ?_
              refine gx_iload_n C hl dX12_log_86 rfl ?_
              obtain ⟨h10, h⟩ := h
              refine gx_iald C G rfl (fX12_logAsk_l hV) (fX12_logAsk_t hV) rx1 h10.1 (ixl (fX12_logAsk_n hV) h10.2) dX12_log_87 ?_
              have r11 := G.r (o + 21) (Int.toNat x1)
              exact gx_iret C G hret r11 h dX12_log_88
            · have h := h.2 c9
              refine gx_aload_n C hl dX12_log_73 rfl ?_
              refine gx_getF C G rfl (fX12_o hV) (fo11_35 (fX12_c hV)) (fX12_logPlace hV) uw_990 (fun _ h9 => h9) dX12_log_74 ?_
              refine gx_iload_n C hl dX12_log_77 rfl ?_
              obtain ⟨h12, h⟩ := h
              refine gx_iald C G rfl (fX12_logPlace_l hV) (fX12_logPlace_t hV) rx1 h12.1 (ixl (fX12_logPlace_n hV) h12.2) dX12_log_78 ?_
              have r13 := G.r (o + 20) (Int.toNat x1)
              refine gx_goto (tgt := 88) C dX12_log_79 (by decide) ?_
              exact gx_iret C G hret r13 h dX12_log_88
          · have h := h.2 c8
            refine gx_aload_n C hl dX12_log_59 rfl ?_
            refine gx_getF C G rfl (fX12_o hV) (fo11_34 (fX12_c hV)) (fX12_logBank hV) uw_989 (fun _ h9 => h9) dX12_log_60 ?_
            refine gx_iload_n C hl dX12_log_63 rfl ?_
            obtain ⟨h14, h⟩ := h
            refine gx_iald C G rfl (fX12_logBank_l hV) (fX12_logBank_t hV) rx1 h14.1 (ixl (fX12_logBank_n hV) h14.2) dX12_log_64 ?_
            have r15 := G.r (o + 19) (Int.toNat x1)
            refine gx_goto (tgt := 88) C dX12_log_65 (by decide) ?_
            exact gx_iret C G hret r15 h dX12_log_88
        · have h := h.2 c7
          refine gx_aload_n C hl dX12_log_45 rfl ?_
          refine gx_getF C G rfl (fX12_o hV) (fo11_33 (fX12_c hV)) (fX12_logWhat hV) uw_988 (fun _ h9 => h9) dX12_log_46 ?_
          refine gx_iload_n C hl dX12_log_49 rfl ?_
          obtain ⟨h16, h⟩ := h
          refine gx_iald C G rfl (fX12_logWhat_l hV) (fX12_logWhat_t hV) rx1 h16.1 (ixl (fX12_logWhat_n hV) h16.2) dX12_log_50 ?_
          have r17 := G.r (o + 18) (Int.toNat x1)
          refine gx_goto (tgt := 88) C dX12_log_51 (by decide) ?_
          exact gx_iret C G hret r17 h dX12_log_88
      · have h := h.2 c6
        refine gx_aload_n C hl dX12_log_31 rfl ?_
        refine gx_getF C G rfl (fX12_o hV) (fo11_31 (fX12_c hV)) (fX12_logTick hV) uw_986 (fun _ h9 => h9) dX12_log_32 ?_
        refine gx_iload_n C hl dX12_log_35 rfl ?_
        obtain ⟨h18, h⟩ := h
        refine gx_iald C G rfl (fX12_logTick_l hV) (fX12_logTick_t hV) rx1 h18.1 (ixl (fX12_logTick_n hV) h18.2) dX12_log_36 ?_
        have r19 := G.r (o + 16) (Int.toNat x1)
        refine gx_goto (tgt := 88) C dX12_log_37 (by decide) ?_
        exact gx_iret C G hret r19 h dX12_log_88
    · have h := h.2 c5
      refine gx_iconst C dX12_log_25 ?_
      exact gx_iret C G hret (show rng (-1) by decide) h dX12_log_26
def PT_X12_forge (V : Vt) (o : Nat) (x1 : Int) (x2 : Int) (S : Me) (Q : Int → Me → Prop) : Prop := ∀ S1 : Me, S1 = sI S o 0 0 → PT_X12_isLogged V o x1 S1 (fun t3 S2 => ((t3 = 0 → Q (-1) S2) ∧ (¬ t3 = 0 → ((¬ (isin x2 1 1000000) = 0 → (0 ≤ x1 ∧ x1 < 400) ∧ (0 ≤ x1 ∧ x1 < 400) ∧ ∀ S9 : Me, S9 = sI S2 (o + 17) (Int.toNat x1) x2 → Q (S2.1 (o + 17) (Int.toNat x1)) S9) ∧ ((isin x2 1 1000000) = 0 → Q (-1) S2)))))
theorem hd_X12_forge : yX12_forge.cls ≠ "java/lang/invoke/MethodHandle" ∧ yX12_forge.cls ≠ "java/lang/invoke/VarHandle" ∧ (parseMethodDescriptor yX12_forge.desc).map (fun d => d.parameters.length) = some 2 := by decide +kernel
set_option maxHeartbeats 4000000 in
set_option maxRecDepth 100000 in
theorem c_X12_forge (l : Launch) (D : va_G) (cy : ClassId × ClassId × ClassId × ClassId) (ad : Nat → Nat) {V : Vt} {S : Me} {o : Nat} {x1 : Int} {x2 : Int} (hV : fX12 V o) (rx1 : rng x1) (rx2 : rng x2) {Q : Int → Me → Prop} (h : PT_X12_forge V o x1 x2 S Q) : KM l D cy yX12_forge cX12_forge 4 (Option.some Jvm.ClassFile.FieldType.int) 1 25 ad V S [.inr (some o), .inl x1, .inl x2] (qI Q) := by
  refine KM.of (by decide) rfl (Nat.le_of_ble_eq_true rfl) (own := RX12) (fun p e s m args below meth c A ls H locs eA C hret hml hmn hl G => ?_)
  have hl : lo ad ls [some (.inr (some o)), some (.inl x1), some (.inl x2), none] := hl
  clear eA
  unfold PT_X12_forge at h
  refine gx_aload_n C hl dX12_forge_0 rfl ?_
  refine gx_iconst C dX12_forge_1 ?_
  refine gx_putI C G rfl (fX12_o hV) (fo11_0 (fX12_c hV)) (show rng 0 by decide) uw_955 (fun _ h9 => h9) dX12_forge_2 (fun H locs G => ?_)
  obtain ⟨S1, eS1⟩ : ∃ q9 : Me, q9 = sI S o 0 0 := ⟨_, rfl⟩
  have h := h S1 eS1
  rw [← eS1] at G
  refine gx_aload_n C hl dX12_forge_5 rfl ?_
  refine gx_iload_n C hl dX12_forge_6 rfl ?_
  refine gx_callV C G hl hml (c_X12_isLogged l D cy ad hV rx1 h) rfl (fX12_o hV) (by rw [(fX12_c hV)]; rfl) (by rw [(fX12_c hV)]; decide) rfl uw_1305 uw_1302 uw_1304 up_41 uw_9 hd_X12_isLogged ⟨Nat.le_of_ble_eq_true rfl, Nat.le_of_ble_eq_true rfl⟩ ⟨Nat.zero_le _, Nat.zero_le _⟩ rfl rfl (hw_le ad [] rfl (Nat.le_of_ble_eq_true rfl)) dX12_forge_7 (kkI (fun t3 S2 H locs rt3 h G => ?_))
  refine gx_if_eq (tgt := 25) C rt3 dX12_forge_10 (by decide) (fun c4 => ?_) (fun c4 => ?_)
  · have h := h.1 c4
    refine gx_iconst C dX12_forge_25 ?_
    exact gx_iret C G hret (show rng (-1) by decide) h dX12_forge_26
  · have h := h.2 c4
    refine gx_iload_n C hl dX12_forge_13 rfl ?_
    refine gx_i2l C rx2 dX12_forge_14 ?_
    refine gx_lconst (x := 1) C (by decide) dX12_forge_15 ?_
    refine gx_ldc2 (n := 1000000) C uw_1310 dX12_forge_16 ?_
    refine gx_isIn C G hl hml rx2 (show rng 1 by decide) (show rng 1000000 by decide) uw_1115 ⟨Nat.le_of_ble_eq_true rfl, Nat.le_of_ble_eq_true rfl⟩ ⟨Nat.zero_le _, Nat.zero_le _⟩ (hw_le ad [] rfl (Nat.le_of_ble_eq_true rfl)) dX12_forge_19 ?_
    refine gx_if_ne (tgt := 27) C (isin_r _ _ _) dX12_forge_22 (by decide) (fun c5 => ?_) (fun c5 => ?_)
    · have h := h.1 c5
      refine gx_aload_n C hl dX12_forge_27 rfl ?_
      refine gx_getF C G rfl (fX12_o hV) (fo11_32 (fX12_c hV)) (fX12_logForged hV) uw_987 (fun _ h9 => h9) dX12_forge_28 ?_
      refine gx_iload_n C hl dX12_forge_31 rfl ?_
      obtain ⟨h6, h⟩ := h
      refine gx_iald C G rfl (fX12_logForged_l hV) (fX12_logForged_t hV) rx1 h6.1 (ixl (fX12_logForged_n hV) h6.2) dX12_forge_32 ?_
      have r7 := G.r (o + 17) (Int.toNat x1)
      refine gx_istore_n C hl dX12_forge_33 (Nat.le_of_ble_eq_true rfl) (PL' := [some (.inr (some o)), some (.inl x1), some (.inl x2), some (.inl (S2.1 (o + 17) (Int.toNat x1)))]) rfl (fun ls hl => ?_)
      refine gx_aload_n C hl dX12_forge_34 rfl ?_
      refine gx_getF C G rfl (fX12_o hV) (fo11_32 (fX12_c hV)) (fX12_logForged hV) uw_987 (fun _ h9 => h9) dX12_forge_35 ?_
      refine gx_iload_n C hl dX12_forge_38 rfl ?_
      refine gx_iload_n C hl dX12_forge_39 rfl ?_
      obtain ⟨h8, h⟩ := h
      refine gx_iast C G rfl (fX12_logForged_l hV) (fX12_logForged_t hV) rx1 rx2 h8.1 (ixl (fX12_logForged_n hV) h8.2) dX12_forge_40 (fun H locs G => ?_)
      obtain ⟨S9, eS9⟩ : ∃ q9 : Me, q9 = sI S2 (o + 17) (Int.toNat x1) x2 := ⟨_, rfl⟩
      have h := h S9 eS9
      rw [← eS9] at G
      refine gx_iload_n C hl dX12_forge_41 rfl ?_
      exact gx_iret C G hret r7 h dX12_forge_42
    · have h := h.2 c5
      refine gx_iconst C dX12_forge_25 ?_
      exact gx_iret C G hret (show rng (-1) by decide) h dX12_forge_26
def B_X12_breaks_222 (V : Vt) (o : Nat) (x1 : Int) (K10 : Int → Int → Int → Me → Prop) (y2 : Int) (y3 : Int) (y4 : Int) (S : Me) (Q : Int → Me → Prop) : Prop := (rng (y4 + (-1))) ∧ K10 y2 y3 (y4 + (-1)) S
def B_X12_breaks_221 (V : Vt) (o : Nat) (x1 : Int) (K10 : Int → Int → Int → Me → Prop) (y3 : Int) (y4 : Int) (w0 : Int) (S : Me) (Q : Int → Me → Prop) : Prop := B_X12_breaks_222 V o x1 K10 w0 y3 y4 S Q
def B_X12_breaks_220 (V : Vt) (o : Nat) (x1 : Int) (K10 : Int → Int → Int → Me → Prop) (y2 : Int) (y3 : Int) (y4 : Int) (S : Me) (Q : Int → Me → Prop) : Prop := B_X12_breaks_221 V o x1 K10 y3 y4 y2 S Q
def B_X12_breaks_215 (V : Vt) (o : Nat) (x1 : Int) (K10 : Int → Int → Int → Me → Prop) (y3 : Int) (y4 : Int) (S : Me) (Q : Int → Me → Prop) : Prop := B_X12_breaks_221 V o x1 K10 y3 y4 10 S Q
def B_X12_breaks_198 (V : Vt) (o : Nat) (x1 : Int) (K10 : Int → Int → Int → Me → Prop) (y2 : Int) (y3 : Int) (y4 : Int) (w0 : Int) (S : Me) (Q : Int → Me → Prop) : Prop := ((w0 = 0 → B_X12_breaks_220 V o x1 K10 y2 y3 y4 S Q) ∧ (¬ w0 = 0 → ((y2 < 0 → B_X12_breaks_215 V o x1 K10 y3 y4 S Q) ∧ (¬ y2 < 0 → ((y2 ≤ 10 → B_X12_breaks_220 V o x1 K10 y2 y3 y4 S Q) ∧ (¬ y2 ≤ 10 → B_X12_breaks_215 V o x1 K10 y3 y4 S Q))))))
def B_X12_breaks_197 (V : Vt) (o : Nat) (x1 : Int) (K10 : Int → Int → Int → Me → Prop) (y2 : Int) (y3 : Int) (y4 : Int) (S : Me) (Q : Int → Me → Prop) : Prop := B_X12_breaks_198 V o x1 K10 y2 y3 y4 0 S Q
def B_X12_breaks_147 (V : Vt) (o : Nat) (x1 : Int) (K10 : Int → Int → Int → Me → Prop) (K35 : Int → Int → Int → Int → Int → Me → Prop) (y3 : Int) (y4 : Int) (y5 : Int) (y6 : Int) (w0 : Int) (S : Me) (Q : Int → Me → Prop) : Prop := (rng (y6 + (-1))) ∧ K35 w0 y3 y4 y5 (y6 + (-1)) S
def B_X12_breaks_146 (V : Vt) (o : Nat) (x1 : Int) (K10 : Int → Int → Int → Me → Prop) (K35 : Int → Int → Int → Int → Int → Me → Prop) (y2 : Int) (y3 : Int) (y4 : Int) (y5 : Int) (y6 : Int) (S : Me) (Q : Int → Me → Prop) : Prop := B_X12_breaks_147 V o x1 K10 K35 y3 y4 y5 y6 y2 S Q
def B_X12_breaks_141 (V : Vt) (o : Nat) (x1 : Int) (K10 : Int → Int → Int → Me → Prop) (K35 : Int → Int → Int → Int → Int → Me → Prop) (y3 : Int) (y4 : Int) (y5 : Int) (y6 : Int) (S : Me) (Q : Int → Me → Prop) : Prop := B_X12_breaks_147 V o x1 K10 K35 y3 y4 y5 y6 y6 S Q
def B_X12_breaks_124 (V : Vt) (o : Nat) (x1 : Int) (K10 : Int → Int → Int → Me → Prop) (K35 : Int → Int → Int → Int → Int → Me → Prop) (y2 : Int) (y3 : Int) (y4 : Int) (y5 : Int) (y6 : Int) (w0 : Int) (S : Me) (Q : Int → Me → Prop) : Prop := ((w0 = 0 → B_X12_breaks_146 V o x1 K10 K35 y2 y3 y4 y5 y6 S Q) ∧ (¬ w0 = 0 → ((y2 < 0 → B_X12_breaks_141 V o x1 K10 K35 y3 y4 y5 y6 S Q) ∧ (¬ y2 < 0 → ((y2 ≤ y6 → B_X12_breaks_146 V o x1 K10 K35 y2 y3 y4 y5 y6 S Q) ∧ (¬ y2 ≤ y6 → B_X12_breaks_141 V o x1 K10 K35 y3 y4 y5 y6 S Q))))))
def B_X12_breaks_123 (V : Vt) (o : Nat) (x1 : Int) (K10 : Int → Int → Int → Me → Prop) (K35 : Int → Int → Int → Int → Int → Me → Prop) (y2 : Int) (y3 : Int) (y4 : Int) (y5 : Int) (y6 : Int) (S : Me) (Q : Int → Me → Prop) : Prop := B_X12_breaks_124 V o x1 K10 K35 y2 y3 y4 y5 y6 0 S Q
def B_X12_breaks_35 (V : Vt) (o : Nat) (x1 : Int) (K10 : Int → Int → Int → Me → Prop) (Q : Int → Me → Prop) : Nat → (Int → Int → Int → Int → Int → Me → Prop)
  | 0 => fun _ _ _ _ _ _ => False
  | n + 1 => fun y2 y3 y4 y5 y6 S => ((y6 < 0 → (0 ≤ y4 ∧ y4 < 400) ∧ ((¬ (S.1 (o + 18) (Int.toNat y4)) = 0 → B_X12_breaks_222 V o x1 K10 y2 y3 y4 S Q) ∧ ((S.1 (o + 18) (Int.toNat y4)) = 0 → (0 ≤ x1 ∧ x1 < 400) ∧ ((¬ (S.1 (o + 18) (Int.toNat x1)) = 0 → B_X12_breaks_222 V o x1 K10 y2 y3 y4 S Q) ∧ ((S.1 (o + 18) (Int.toNat x1)) = 0 → (rng (y3 + 1)) ∧ ((¬ (y3 + 1) = 4 → B_X12_breaks_197 V o x1 K10 y2 (y3 + 1) y4 S Q) ∧ ((y3 + 1) = 4 → (((S.1 (o + 1) (Int.toNat 10)) ≤ y5 → B_X12_breaks_197 V o x1 K10 y2 (y3 + 1) y4 S Q) ∧ (¬ (S.1 (o + 1) (Int.toNat 10)) ≤ y5 → B_X12_breaks_198 V o x1 K10 y2 (y3 + 1) y4 1 S Q))))))))) ∧ (¬ y6 < 0 → ((y6 = 10 → B_X12_breaks_123 V o x1 K10 (B_X12_breaks_35 V o x1 K10 Q n) y2 y3 y4 y5 y6 S Q) ∧ (¬ y6 = 10 → (0 ≤ y4 ∧ y4 < 400) ∧ (0 ≤ y4 ∧ y4 < 400) ∧ (0 ≤ x1 ∧ x1 < 400) ∧ (0 ≤ x1 ∧ x1 < 400) ∧ PT_X12_asked V o y6 (S.1 (o + 18) (Int.toNat y4)) (S.1 (o + 19) (Int.toNat y4)) (S.1 (o + 18) (Int.toNat x1)) (S.1 (o + 19) (Int.toNat x1)) S (fun t30 S29 => ((t30 ≤ y5 → B_X12_breaks_123 V o x1 K10 (B_X12_breaks_35 V o x1 K10 Q n) y2 y3 y4 y5 y6 S29 Q) ∧ (¬ t30 ≤ y5 → (0 ≤ y4 ∧ y4 < 400) ∧ (0 ≤ y4 ∧ y4 < 400) ∧ (0 ≤ x1 ∧ x1 < 400) ∧ (0 ≤ x1 ∧ x1 < 400) ∧ PT_X12_asked V o y6 (S29.1 (o + 18) (Int.toNat y4)) (S29.1 (o + 19) (Int.toNat y4)) (S29.1 (o + 18) (Int.toNat x1)) (S29.1 (o + 19) (Int.toNat x1)) S29 (fun t41 S40 => ((t41 ≤ 0 → B_X12_breaks_123 V o x1 K10 (B_X12_breaks_35 V o x1 K10 Q n) y2 y3 y4 y5 y6 S40 Q) ∧ (¬ t41 ≤ 0 → B_X12_breaks_124 V o x1 K10 (B_X12_breaks_35 V o x1 K10 Q n) y2 y3 y4 y5 y6 1 S40 Q))))))))))
def B_X12_breaks_10 (V : Vt) (o : Nat) (x1 : Int) (Q : Int → Me → Prop) : Nat → (Int → Int → Int → Me → Prop)
  | 0 => fun _ _ _ _ => False
  | n + 1 => fun y2 y3 y4 S => ((y4 < 0 → Q y2 S) ∧ (¬ y4 < 0 → (0 ≤ x1 ∧ x1 < 400) ∧ (0 ≤ y4 ∧ y4 < 400) ∧ (rng ((S.1 (o + 17) (Int.toNat x1)) - (S.1 (o + 17) (Int.toNat y4)))) ∧ (∃ n9 : Nat, B_X12_breaks_35 V o x1 (B_X12_breaks_10 V o x1 Q n) Q n9 y2 y3 y4 ((S.1 (o + 17) (Int.toNat x1)) - (S.1 (o + 17) (Int.toNat y4))) 12 S)))
def PT_X12_breaks (V : Vt) (o : Nat) (x1 : Int) (S : Me) (Q : Int → Me → Prop) : Prop := (rng (x1 - 1)) ∧ (∃ n9 : Nat, B_X12_breaks_10 V o x1 Q n9 (-2) 0 (x1 - 1) S)
theorem hd_X12_breaks : yX12_breaks.cls ≠ "java/lang/invoke/MethodHandle" ∧ yX12_breaks.cls ≠ "java/lang/invoke/VarHandle" ∧ (parseMethodDescriptor yX12_breaks.desc).map (fun d => d.parameters.length) = some 1 := by decide +kernel
set_option maxHeartbeats 4000000 in
set_option maxRecDepth 100000 in
theorem c_X12_breaks (l : Launch) (D : va_G) (cy : ClassId × ClassId × ClassId × ClassId) (ad : Nat → Nat) {V : Vt} {S : Me} {o : Nat} {x1 : Int} (hV : fX12 V o) (rx1 : rng x1) {Q : Int → Me → Prop} (h : PT_X12_breaks V o x1 S Q) : KM l D cy yX12_breaks cX12_breaks 8 (Option.some Jvm.ClassFile.FieldType.int) 1 30 ad V S [.inr (some o), .inl x1] (qI Q) := by
  refine KM.of (by decide) rfl (Nat.le_of_ble_eq_true rfl) (own := RX12) (fun p e s m args below meth c A ls H locs eA C hret hml hmn hl G => ?_)
  have hl : lo ad ls [some (.inr (some o)), some (.inl x1), none, none, none, none, none, none] := hl
  have b222 : ∀ (K10 : Int → Int → Int → Me → Prop) (hK10 : ∀ (y2 : Int) (y3 : Int) (y4 : Int) (S : Me) (H : Heap) (locs : List Loc) (ls : Array Slot), rng y2 → rng y3 → rng y4 → lo ad ls [some (.inr (some o)), some (.inl x1), some (.inl y2), some (.inl y3), some (.inl y4), none, none, none] → Gy D cy A s.heap ad V S H locs → K10 y2 y3 y4 S → W p l e (rmx 1 30) s m args below meth c H locs 0 0 (qm below D cy ad V A args s (qI Q)) (F0 m 10 ls [])) (y2 : Int) (y3 : Int) (y4 : Int) (S : Me) (H : Heap) (locs : List Loc) (ls : Array Slot), rng y2 → rng y3 → rng y4 → lo ad ls [some (.inr (some o)), some (.inl x1), some (.inl y2), some (.inl y3), some (.inl y4), none, none, none] → Gy D cy A s.heap ad V S H locs → B_X12_breaks_222 V o x1 K10 y2 y3 y4 S Q → W p l e (rmx 1 30) s m args below meth c H locs 0 0 (qm below D cy ad V A args s (qI Q)) (F0 m 222 ls []) := by
    intro K10 hK10 y2 y3 y4 S H locs ls ry2 ry3 ry4 hl G h
    unfold B_X12_breaks_222 at h
    obtain ⟨h1, h⟩ := h
    refine gx_iinc C hl dX12_breaks_222 rfl (PL' := [some (.inr (some o)), some (.inl x1), some (.inl y2), some (.inl y3), some (.inl (y4 + (-1))), none, none, none]) rfl (fun ls hl => ?_)
    refine gx_goto (tgt := 10) C dX12_breaks_225 (by decide) ?_
    exact hK10 y2 y3 (y4 + (-1)) S H locs ls ry2 ry3 h1 hl G h
  have b221 : ∀ (K10 : Int → Int → Int → Me → Prop) (hK10 : ∀ (y2 : Int) (y3 : Int) (y4 : Int) (S : Me) (H : Heap) (locs : List Loc) (ls : Array Slot), rng y2 → rng y3 → rng y4 → lo ad ls [some (.inr (some o)), some (.inl x1), some (.inl y2), some (.inl y3), some (.inl y4), none, none, none] → Gy D cy A s.heap ad V S H locs → K10 y2 y3 y4 S → W p l e (rmx 1 30) s m args below meth c H locs 0 0 (qm below D cy ad V A args s (qI Q)) (F0 m 10 ls [])) (y3 : Int) (y4 : Int) (w0 : Int) (S : Me) (H : Heap) (locs : List Loc) (ls : Array Slot), rng y3 → rng y4 → rng w0 → lo ad ls [some (.inr (some o)), some (.inl x1), none, some (.inl y3), some (.inl y4), none, none, none] → Gy D cy A s.heap ad V S H locs → B_X12_breaks_221 V o x1 K10 y3 y4 w0 S Q → W p l e (rmx 1 30) s m args below meth c H locs 0 0 (qm below D cy ad V A args s (qI Q)) (F0 m 221 ls [vI w0]) := by
    intro K10 hK10 y3 y4 w0 S H locs ls ry3 ry4 rw0 hl G h
    unfold B_X12_breaks_221 at h
    refine gx_istore_n C hl dX12_breaks_221 (Nat.le_of_ble_eq_true rfl) (PL' := [some (.inr (some o)), some (.inl x1), some (.inl w0), some (.inl y3), some (.inl y4), none, none, none]) rfl (fun ls hl => ?_)
    exact b222 K10 hK10 w0 y3 y4 S H locs ls rw0 ry3 ry4 hl G h
  have b220 : ∀ (K10 : Int → Int → Int → Me → Prop) (hK10 : ∀ (y2 : Int) (y3 : Int) (y4 : Int) (S : Me) (H : Heap) (locs : List Loc) (ls : Array Slot), rng y2 → rng y3 → rng y4 → lo ad ls [some (.inr (some o)), some (.inl x1), some (.inl y2), some (.inl y3), some (.inl y4), none, none, none] → Gy D cy A s.heap ad V S H locs → K10 y2 y3 y4 S → W p l e (rmx 1 30) s m args below meth c H locs 0 0 (qm below D cy ad V A args s (qI Q)) (F0 m 10 ls [])) (y2 : Int) (y3 : Int) (y4 : Int) (S : Me) (H : Heap) (locs : List Loc) (ls : Array Slot), rng y2 → rng y3 → rng y4 → lo ad ls [some (.inr (some o)), some (.inl x1), some (.inl y2), some (.inl y3), some (.inl y4), none, none, none] → Gy D cy A s.heap ad V S H locs → B_X12_breaks_220 V o x1 K10 y2 y3 y4 S Q → W p l e (rmx 1 30) s m args below meth c H locs 0 0 (qm below D cy ad V A args s (qI Q)) (F0 m 220 ls []) := by
    intro K10 hK10 y2 y3 y4 S H locs ls ry2 ry3 ry4 hl G h
    unfold B_X12_breaks_220 at h
    refine gx_iload_n C hl dX12_breaks_220 rfl ?_
    exact b221 K10 hK10 y3 y4 y2 S H locs ls ry3 ry4 ry2 (lo_mask (bs := [true, true, false, true, true, false, false, false]) hl rfl rfl) G h
  have b215 : ∀ (K10 : Int → Int → Int → Me → Prop) (hK10 : ∀ (y2 : Int) (y3 : Int) (y4 : Int) (S : Me) (H : Heap) (locs : List Loc) (ls : Array Slot), rng y2 → rng y3 → rng y4 → lo ad ls [some (.inr (some o)), some (.inl x1), some (.inl y2), some (.inl y3), some (.inl y4), none, none, none] → Gy D cy A s.heap ad V S H locs → K10 y2 y3 y4 S → W p l e (rmx 1 30) s m args below meth c H locs 0 0 (qm below D cy ad V A args s (qI Q)) (F0 m 10 ls [])) (y3 : Int) (y4 : Int) (S : Me) (H : Heap) (locs : List Loc) (ls : Array Slot), rng y3 → rng y4 → lo ad ls [some (.inr (some o)), some (.inl x1), none, some (.inl y3), some (.inl y4), none, none, none] → Gy D cy A s.heap ad V S H locs → B_X12_breaks_215 V o x1 K10 y3 y4 S Q → W p l e (rmx 1 30) s m args below meth c H locs 0 0 (qm below D cy ad V A args s (qI Q)) (F0 m 215 ls []) := by
    intro K10 hK10 y3 y4 S H locs ls ry3 ry4 hl G h
    unfold B_X12_breaks_215 at h
    refine gx_bipush C dX12_breaks_215 (by decide) ?_
    refine gx_goto (tgt := 221) C dX12_breaks_217 (by decide) ?_
    exact b221 K10 hK10 y3 y4 10 S H locs ls ry3 ry4 (show rng 10 by decide) hl G h
  have b198 : ∀ (K10 : Int → Int → Int → Me → Prop) (hK10 : ∀ (y2 : Int) (y3 : Int) (y4 : Int) (S : Me) (H : Heap) (locs : List Loc) (ls : Array Slot), rng y2 → rng y3 → rng y4 → lo ad ls [some (.inr (some o)), some (.inl x1), some (.inl y2), some (.inl y3), some (.inl y4), none, none, none] → Gy D cy A s.heap ad V S H locs → K10 y2 y3 y4 S → W p l e (rmx 1 30) s m args below meth c H locs 0 0 (qm below D cy ad V A args s (qI Q)) (F0 m 10 ls [])) (y2 : Int) (y3 : Int) (y4 : Int) (w0 : Int) (S : Me) (H : Heap) (locs : List Loc) (ls : Array Slot), rng y2 → rng y3 → rng y4 → rng w0 → lo ad ls [some (.inr (some o)), some (.inl x1), some (.inl y2), some (.inl y3), some (.inl y4), none, none, none] → Gy D cy A s.heap ad V S H locs → B_X12_breaks_198 V o x1 K10 y2 y3 y4 w0 S Q → W p l e (rmx 1 30) s m args below meth c H locs 0 0 (qm below D cy ad V A args s (qI Q)) (F0 m 198 ls [vI w0]) := by
    intro K10 hK10 y2 y3 y4 w0 S H locs ls ry2 ry3 ry4 rw0 hl G h
    unfold B_X12_breaks_198 at h
    refine gx_istore C hl dX12_breaks_198 (Nat.le_of_ble_eq_true rfl) (PL' := [some (.inr (some o)), some (.inl x1), some (.inl y2), some (.inl y3), some (.inl y4), none, some (.inl w0), none]) rfl (fun ls hl => ?_)
    refine gx_iload C hl dX12_breaks_200 rfl ?_
    refine gx_if_eq (tgt := 220) C rw0 dX12_breaks_202 (by decide) (fun c2 => ?_) (fun c2 => ?_)
    · have h := h.1 c2
      exact b220 K10 hK10 y2 y3 y4 S H locs ls ry2 ry3 ry4 (lo_mask (bs := [true, true, true, true, true, false, false, false]) hl rfl rfl) G h
    · have h := h.2 c2
      refine gx_iload_n C hl dX12_breaks_205 rfl ?_
      refine gx_if_lt (tgt := 215) C ry2 dX12_breaks_206 (by decide) (fun c3 => ?_) (fun c3 => ?_)
      · have h := h.1 c3
        exact b215 K10 hK10 y3 y4 S H locs ls ry3 ry4 (lo_mask (bs := [true, true, false, true, true, false, false, false]) hl rfl rfl) G h
      · have h := h.2 c3
        refine gx_iload_n C hl dX12_breaks_209 rfl ?_
        refine gx_bipush C dX12_breaks_210 (by decide) ?_
        refine gx_icmp_le (tgt := 220) C ry2 (show rng 10 by decide) dX12_breaks_212 (by decide) (fun c4 => ?_) (fun c4 => ?_)
        · have h := h.1 c4
          exact b220 K10 hK10 y2 y3 y4 S H locs ls ry2 ry3 ry4 (lo_mask (bs := [true, true, true, true, true, false, false, false]) hl rfl rfl) G h
        · have h := h.2 c4
          exact b215 K10 hK10 y3 y4 S H locs ls ry3 ry4 (lo_mask (bs := [true, true, false, true, true, false, false, false]) hl rfl rfl) G h
  have b197 : ∀ (K10 : Int → Int → Int → Me → Prop) (hK10 : ∀ (y2 : Int) (y3 : Int) (y4 : Int) (S : Me) (H : Heap) (locs : List Loc) (ls : Array Slot), rng y2 → rng y3 → rng y4 → lo ad ls [some (.inr (some o)), some (.inl x1), some (.inl y2), some (.inl y3), some (.inl y4), none, none, none] → Gy D cy A s.heap ad V S H locs → K10 y2 y3 y4 S → W p l e (rmx 1 30) s m args below meth c H locs 0 0 (qm below D cy ad V A args s (qI Q)) (F0 m 10 ls [])) (y2 : Int) (y3 : Int) (y4 : Int) (S : Me) (H : Heap) (locs : List Loc) (ls : Array Slot), rng y2 → rng y3 → rng y4 → lo ad ls [some (.inr (some o)), some (.inl x1), some (.inl y2), some (.inl y3), some (.inl y4), none, none, none] → Gy D cy A s.heap ad V S H locs → B_X12_breaks_197 V o x1 K10 y2 y3 y4 S Q → W p l e (rmx 1 30) s m args below meth c H locs 0 0 (qm below D cy ad V A args s (qI Q)) (F0 m 197 ls []) := by
    intro K10 hK10 y2 y3 y4 S H locs ls ry2 ry3 ry4 hl G h
    unfold B_X12_breaks_197 at h
    refine gx_iconst C dX12_breaks_197 ?_
    exact b198 K10 hK10 y2 y3 y4 0 S H locs ls ry2 ry3 ry4 (show rng 0 by decide) hl G h
  have b147 : ∀ (K10 : Int → Int → Int → Me → Prop) (hK10 : ∀ (y2 : Int) (y3 : Int) (y4 : Int) (S : Me) (H : Heap) (locs : List Loc) (ls : Array Slot), rng y2 → rng y3 → rng y4 → lo ad ls [some (.inr (some o)), some (.inl x1), some (.inl y2), some (.inl y3), some (.inl y4), none, none, none] → Gy D cy A s.heap ad V S H locs → K10 y2 y3 y4 S → W p l e (rmx 1 30) s m args below meth c H locs 0 0 (qm below D cy ad V A args s (qI Q)) (F0 m 10 ls [])) (K35 : Int → Int → Int → Int → Int → Me → Prop) (hK35 : ∀ (y2 : Int) (y3 : Int) (y4 : Int) (y5 : Int) (y6 : Int) (S : Me) (H : Heap) (locs : List Loc) (ls : Array Slot), rng y2 → rng y3 → rng y4 → rng y5 → rng y6 → lo ad ls [some (.inr (some o)), some (.inl x1), some (.inl y2), some (.inl y3), some (.inl y4), some (.inl y5), some (.inl y6), none] → Gy D cy A s.heap ad V S H locs → K35 y2 y3 y4 y5 y6 S → W p l e (rmx 1 30) s m args below meth c H locs 0 0 (qm below D cy ad V A args s (qI Q)) (F0 m 35 ls [])) (y3 : Int) (y4 : Int) (y5 : Int) (y6 : Int) (w0 : Int) (S : Me) (H : Heap) (locs : List Loc) (ls : Array Slot), rng y3 → rng y4 → rng y5 → rng y6 → rng w0 → lo ad ls [some (.inr (some o)), some (.inl x1), none, some (.inl y3), some (.inl y4), some (.inl y5), some (.inl y6), none] → Gy D cy A s.heap ad V S H locs → B_X12_breaks_147 V o x1 K10 K35 y3 y4 y5 y6 w0 S Q → W p l e (rmx 1 30) s m args below meth c H locs 0 0 (qm below D cy ad V A args s (qI Q)) (F0 m 147 ls [vI w0]) := by
    intro K10 hK10 K35 hK35 y3 y4 y5 y6 w0 S H locs ls ry3 ry4 ry5 ry6 rw0 hl G h
    unfold B_X12_breaks_147 at h
    refine gx_istore_n C hl dX12_breaks_147 (Nat.le_of_ble_eq_true rfl) (PL' := [some (.inr (some o)), some (.inl x1), some (.inl w0), some (.inl y3), some (.inl y4), some (.inl y5), some (.inl y6), none]) rfl (fun ls hl => ?_)
    obtain ⟨h5, h⟩ := h
    refine gx_iinc C hl dX12_breaks_148 rfl (PL' := [some (.inr (some o)), some (.inl x1), some (.inl w0), some (.inl y3), some (.inl y4), some (.inl y5), some (.inl (y6 + (-1))), none]) rfl (fun ls hl => ?_)
    refine gx_goto (tgt := 35) C dX12_breaks_151 (by decide) ?_
    exact hK35 w0 y3 y4 y5 (y6 + (-1)) S H locs ls rw0 ry3 ry4 ry5 h5 hl G h
  have b146 : ∀ (K10 : Int → Int → Int → Me → Prop) (hK10 : ∀ (y2 : Int) (y3 : Int) (y4 : Int) (S : Me) (H : Heap) (locs : List Loc) (ls : Array Slot), rng y2 → rng y3 → rng y4 → lo ad ls [some (.inr (some o)), some (.inl x1), some (.inl y2), some (.inl y3), some (.inl y4), none, none, none] → Gy D cy A s.heap ad V S H locs → K10 y2 y3 y4 S → W p l e (rmx 1 30) s m args below meth c H locs 0 0 (qm below D cy ad V A args s (qI Q)) (F0 m 10 ls [])) (K35 : Int → Int → Int → Int → Int → Me → Prop) (hK35 : ∀ (y2 : Int) (y3 : Int) (y4 : Int) (y5 : Int) (y6 : Int) (S : Me) (H : Heap) (locs : List Loc) (ls : Array Slot), rng y2 → rng y3 → rng y4 → rng y5 → rng y6 → lo ad ls [some (.inr (some o)), some (.inl x1), some (.inl y2), some (.inl y3), some (.inl y4), some (.inl y5), some (.inl y6), none] → Gy D cy A s.heap ad V S H locs → K35 y2 y3 y4 y5 y6 S → W p l e (rmx 1 30) s m args below meth c H locs 0 0 (qm below D cy ad V A args s (qI Q)) (F0 m 35 ls [])) (y2 : Int) (y3 : Int) (y4 : Int) (y5 : Int) (y6 : Int) (S : Me) (H : Heap) (locs : List Loc) (ls : Array Slot), rng y2 → rng y3 → rng y4 → rng y5 → rng y6 → lo ad ls [some (.inr (some o)), some (.inl x1), some (.inl y2), some (.inl y3), some (.inl y4), some (.inl y5), some (.inl y6), none] → Gy D cy A s.heap ad V S H locs → B_X12_breaks_146 V o x1 K10 K35 y2 y3 y4 y5 y6 S Q → W p l e (rmx 1 30) s m args below meth c H locs 0 0 (qm below D cy ad V A args s (qI Q)) (F0 m 146 ls []) := by
    intro K10 hK10 K35 hK35 y2 y3 y4 y5 y6 S H locs ls ry2 ry3 ry4 ry5 ry6 hl G h
    unfold B_X12_breaks_146 at h
    refine gx_iload_n C hl dX12_breaks_146 rfl ?_
    exact b147 K10 hK10 K35 hK35 y3 y4 y5 y6 y2 S H locs ls ry3 ry4 ry5 ry6 ry2 (lo_mask (bs := [true, true, false, true, true, true, true, false]) hl rfl rfl) G h
  have b141 : ∀ (K10 : Int → Int → Int → Me → Prop) (hK10 : ∀ (y2 : Int) (y3 : Int) (y4 : Int) (S : Me) (H : Heap) (locs : List Loc) (ls : Array Slot), rng y2 → rng y3 → rng y4 → lo ad ls [some (.inr (some o)), some (.inl x1), some (.inl y2), some (.inl y3), some (.inl y4), none, none, none] → Gy D cy A s.heap ad V S H locs → K10 y2 y3 y4 S → W p l e (rmx 1 30) s m args below meth c H locs 0 0 (qm below D cy ad V A args s (qI Q)) (F0 m 10 ls [])) (K35 : Int → Int → Int → Int → Int → Me → Prop) (hK35 : ∀ (y2 : Int) (y3 : Int) (y4 : Int) (y5 : Int) (y6 : Int) (S : Me) (H : Heap) (locs : List Loc) (ls : Array Slot), rng y2 → rng y3 → rng y4 → rng y5 → rng y6 → lo ad ls [some (.inr (some o)), some (.inl x1), some (.inl y2), some (.inl y3), some (.inl y4), some (.inl y5), some (.inl y6), none] → Gy D cy A s.heap ad V S H locs → K35 y2 y3 y4 y5 y6 S → W p l e (rmx 1 30) s m args below meth c H locs 0 0 (qm below D cy ad V A args s (qI Q)) (F0 m 35 ls [])) (y3 : Int) (y4 : Int) (y5 : Int) (y6 : Int) (S : Me) (H : Heap) (locs : List Loc) (ls : Array Slot), rng y3 → rng y4 → rng y5 → rng y6 → lo ad ls [some (.inr (some o)), some (.inl x1), none, some (.inl y3), some (.inl y4), some (.inl y5), some (.inl y6), none] → Gy D cy A s.heap ad V S H locs → B_X12_breaks_141 V o x1 K10 K35 y3 y4 y5 y6 S Q → W p l e (rmx 1 30) s m args below meth c H locs 0 0 (qm below D cy ad V A args s (qI Q)) (F0 m 141 ls []) := by
    intro K10 hK10 K35 hK35 y3 y4 y5 y6 S H locs ls ry3 ry4 ry5 ry6 hl G h
    unfold B_X12_breaks_141 at h
    refine gx_iload C hl dX12_breaks_141 rfl ?_
    refine gx_goto (tgt := 147) C dX12_breaks_143 (by decide) ?_
    exact b147 K10 hK10 K35 hK35 y3 y4 y5 y6 y6 S H locs ls ry3 ry4 ry5 ry6 ry6 hl G h
  have b124 : ∀ (K10 : Int → Int → Int → Me → Prop) (hK10 : ∀ (y2 : Int) (y3 : Int) (y4 : Int) (S : Me) (H : Heap) (locs : List Loc) (ls : Array Slot), rng y2 → rng y3 → rng y4 → lo ad ls [some (.inr (some o)), some (.inl x1), some (.inl y2), some (.inl y3), some (.inl y4), none, none, none] → Gy D cy A s.heap ad V S H locs → K10 y2 y3 y4 S → W p l e (rmx 1 30) s m args below meth c H locs 0 0 (qm below D cy ad V A args s (qI Q)) (F0 m 10 ls [])) (K35 : Int → Int → Int → Int → Int → Me → Prop) (hK35 : ∀ (y2 : Int) (y3 : Int) (y4 : Int) (y5 : Int) (y6 : Int) (S : Me) (H : Heap) (locs : List Loc) (ls : Array Slot), rng y2 → rng y3 → rng y4 → rng y5 → rng y6 → lo ad ls [some (.inr (some o)), some (.inl x1), some (.inl y2), some (.inl y3), some (.inl y4), some (.inl y5), some (.inl y6), none] → Gy D cy A s.heap ad V S H locs → K35 y2 y3 y4 y5 y6 S → W p l e (rmx 1 30) s m args below meth c H locs 0 0 (qm below D cy ad V A args s (qI Q)) (F0 m 35 ls [])) (y2 : Int) (y3 : Int) (y4 : Int) (y5 : Int) (y6 : Int) (w0 : Int) (S : Me) (H : Heap) (locs : List Loc) (ls : Array Slot), rng y2 → rng y3 → rng y4 → rng y5 → rng y6 → rng w0 → lo ad ls [some (.inr (some o)), some (.inl x1), some (.inl y2), some (.inl y3), some (.inl y4), some (.inl y5), some (.inl y6), none] → Gy D cy A s.heap ad V S H locs → B_X12_breaks_124 V o x1 K10 K35 y2 y3 y4 y5 y6 w0 S Q → W p l e (rmx 1 30) s m args below meth c H locs 0 0 (qm below D cy ad V A args s (qI Q)) (F0 m 124 ls [vI w0]) := by
    intro K10 hK10 K35 hK35 y2 y3 y4 y5 y6 w0 S H locs ls ry2 ry3 ry4 ry5 ry6 rw0 hl G h
    unfold B_X12_breaks_124 at h
    refine gx_istore C hl dX12_breaks_124 (Nat.le_of_ble_eq_true rfl) (PL' := [some (.inr (some o)), some (.inl x1), some (.inl y2), some (.inl y3), some (.inl y4), some (.inl y5), some (.inl y6), some (.inl w0)]) rfl (fun ls hl => ?_)
    refine gx_iload C hl dX12_breaks_126 rfl ?_
    refine gx_if_eq (tgt := 146) C rw0 dX12_breaks_128 (by decide) (fun c6 => ?_) (fun c6 => ?_)
    · have h := h.1 c6
      exact b146 K10 hK10 K35 hK35 y2 y3 y4 y5 y6 S H locs ls ry2 ry3 ry4 ry5 ry6 (lo_mask (bs := [true, true, true, true, true, true, true, false]) hl rfl rfl) G h
    · have h := h.2 c6
      refine gx_iload_n C hl dX12_breaks_131 rfl ?_
      refine gx_if_lt (tgt := 141) C ry2 dX12_breaks_132 (by decide) (fun c7 => ?_) (fun c7 => ?_)
      · have h := h.1 c7
        exact b141 K10 hK10 K35 hK35 y3 y4 y5 y6 S H locs ls ry3 ry4 ry5 ry6 (lo_mask (bs := [true, true, false, true, true, true, true, false]) hl rfl rfl) G h
      · have h := h.2 c7
        refine gx_iload C hl dX12_breaks_135 rfl ?_
        refine gx_iload_n C hl dX12_breaks_137 rfl ?_
        refine gx_icmp_ge (tgt := 146) C ry6 ry2 dX12_breaks_138 (by decide) (fun c8 => ?_) (fun c8 => ?_)
        · have h := h.1 c8
          exact b146 K10 hK10 K35 hK35 y2 y3 y4 y5 y6 S H locs ls ry2 ry3 ry4 ry5 ry6 (lo_mask (bs := [true, true, true, true, true, true, true, false]) hl rfl rfl) G h
        · have h := h.2 c8
          exact b141 K10 hK10 K35 hK35 y3 y4 y5 y6 S H locs ls ry3 ry4 ry5 ry6 (lo_mask (bs := [true, true, false, true, true, true, true, false]) hl rfl rfl) G h
  have b123 : ∀ (K10 : Int → Int → Int → Me → Prop) (hK10 : ∀ (y2 : Int) (y3 : Int) (y4 : Int) (S : Me) (H : Heap) (locs : List Loc) (ls : Array Slot), rng y2 → rng y3 → rng y4 → lo ad ls [some (.inr (some o)), some (.inl x1), some (.inl y2), some (.inl y3), some (.inl y4), none, none, none] → Gy D cy A s.heap ad V S H locs → K10 y2 y3 y4 S → W p l e (rmx 1 30) s m args below meth c H locs 0 0 (qm below D cy ad V A args s (qI Q)) (F0 m 10 ls [])) (K35 : Int → Int → Int → Int → Int → Me → Prop) (hK35 : ∀ (y2 : Int) (y3 : Int) (y4 : Int) (y5 : Int) (y6 : Int) (S : Me) (H : Heap) (locs : List Loc) (ls : Array Slot), rng y2 → rng y3 → rng y4 → rng y5 → rng y6 → lo ad ls [some (.inr (some o)), some (.inl x1), some (.inl y2), some (.inl y3), some (.inl y4), some (.inl y5), some (.inl y6), none] → Gy D cy A s.heap ad V S H locs → K35 y2 y3 y4 y5 y6 S → W p l e (rmx 1 30) s m args below meth c H locs 0 0 (qm below D cy ad V A args s (qI Q)) (F0 m 35 ls [])) (y2 : Int) (y3 : Int) (y4 : Int) (y5 : Int) (y6 : Int) (S : Me) (H : Heap) (locs : List Loc) (ls : Array Slot), rng y2 → rng y3 → rng y4 → rng y5 → rng y6 → lo ad ls [some (.inr (some o)), some (.inl x1), some (.inl y2), some (.inl y3), some (.inl y4), some (.inl y5), some (.inl y6), none] → Gy D cy A s.heap ad V S H locs → B_X12_breaks_123 V o x1 K10 K35 y2 y3 y4 y5 y6 S Q → W p l e (rmx 1 30) s m args below meth c H locs 0 0 (qm below D cy ad V A args s (qI Q)) (F0 m 123 ls []) := by
    intro K10 hK10 K35 hK35 y2 y3 y4 y5 y6 S H locs ls ry2 ry3 ry4 ry5 ry6 hl G h
    unfold B_X12_breaks_123 at h
    refine gx_iconst C dX12_breaks_123 ?_
    exact b124 K10 hK10 K35 hK35 y2 y3 y4 y5 y6 0 S H locs ls ry2 ry3 ry4 ry5 ry6 (show rng 0 by decide) hl G h
  have b35 : ∀ (K10 : Int → Int → Int → Me → Prop) (hK10 : ∀ (y2 : Int) (y3 : Int) (y4 : Int) (S : Me) (H : Heap) (locs : List Loc) (ls : Array Slot), rng y2 → rng y3 → rng y4 → lo ad ls [some (.inr (some o)), some (.inl x1), some (.inl y2), some (.inl y3), some (.inl y4), none, none, none] → Gy D cy A s.heap ad V S H locs → K10 y2 y3 y4 S → W p l e (rmx 1 30) s m args below meth c H locs 0 0 (qm below D cy ad V A args s (qI Q)) (F0 m 10 ls [])) (n : Nat) (y2 : Int) (y3 : Int) (y4 : Int) (y5 : Int) (y6 : Int) (S : Me) (H : Heap) (locs : List Loc) (ls : Array Slot), rng y2 → rng y3 → rng y4 → rng y5 → rng y6 → lo ad ls [some (.inr (some o)), some (.inl x1), some (.inl y2), some (.inl y3), some (.inl y4), some (.inl y5), some (.inl y6), none] → Gy D cy A s.heap ad V S H locs → B_X12_breaks_35 V o x1 K10 Q n y2 y3 y4 y5 y6 S → W p l e (rmx 1 30) s m args below meth c H locs 0 0 (qm below D cy ad V A args s (qI Q)) (F0 m 35 ls []) := by
    intro K10 hK10 n
    induction n with
    | zero =>
      intro y2 y3 y4 y5 y6 S H locs ls ry2 ry3 ry4 ry5 ry6 hl G h
      exact absurd h id
    | succ n ih =>
      intro y2 y3 y4 y5 y6 S H locs ls ry2 ry3 ry4 ry5 ry6 hl G h
      rw [B_X12_breaks_35] at h
      refine gx_iload C hl dX12_breaks_35 rfl ?_
      refine gx_if_lt (tgt := 154) C ry6 dX12_breaks_37 (by decide) (fun c9 => ?_) (fun c9 => ?_)
      · have h := h.1 c9
        refine gx_aload_n C hl dX12_breaks_154 rfl ?_
        refine gx_getF C G rfl (fX12_o hV) (fo11_33 (fX12_c hV)) (fX12_logWhat hV) uw_988 (fun _ h9 => h9) dX12_breaks_155 ?_
        refine gx_iload C hl dX12_breaks_158 rfl ?_
        obtain ⟨h10, h⟩ := h
        refine gx_iald C G rfl (fX12_logWhat_l hV) (fX12_logWhat_t hV) ry4 h10.1 (ixl (fX12_logWhat_n hV) h10.2) dX12_breaks_160 ?_
        have r11 := G.r (o + 18) (Int.toNat y4)
        refine gx_if_ne (tgt := 222) C r11 dX12_breaks_161 (by decide) (fun c12 => ?_) (fun c12 => ?_)
        · have h := h.1 c12
          exact b222 K10 hK10 y2 y3 y4 S H locs ls ry2 ry3 ry4 (lo_mask (bs := [true, true, true, true, true, false, false, false]) hl rfl rfl) G h
        · have h := h.2 c12
          refine gx_aload_n C hl dX12_breaks_164 rfl ?_
          refine gx_getF C G rfl (fX12_o hV) (fo11_33 (fX12_c hV)) (fX12_logWhat hV) uw_988 (fun _ h9 => h9) dX12_breaks_165 ?_
          refine gx_iload_n C hl dX12_breaks_168 rfl ?_
          obtain ⟨h13, h⟩ := h
          refine gx_iald C G rfl (fX12_logWhat_l hV) (fX12_logWhat_t hV) rx1 h13.1 (ixl (fX12_logWhat_n hV) h13.2) dX12_breaks_169 ?_
          have r14 := G.r (o + 18) (Int.toNat x1)
          refine gx_if_ne (tgt := 222) C r14 dX12_breaks_170 (by decide) (fun c15 => ?_) (fun c15 => ?_)
          · have h := h.1 c15
            exact b222 K10 hK10 y2 y3 y4 S H locs ls ry2 ry3 ry4 (lo_mask (bs := [true, true, true, true, true, false, false, false]) hl rfl rfl) G h
          · have h := h.2 c15
            obtain ⟨h16, h⟩ := h
            refine gx_iinc C hl dX12_breaks_173 rfl (PL' := [some (.inr (some o)), some (.inl x1), some (.inl y2), some (.inl (y3 + 1)), some (.inl y4), some (.inl y5), some (.inl y6), none]) rfl (fun ls hl => ?_)
            refine gx_iload_n C hl dX12_breaks_176 rfl ?_
            refine gx_iconst C dX12_breaks_177 ?_
            refine gx_icmp_ne (tgt := 197) C h16 (show rng 4 by decide) dX12_breaks_178 (by decide) (fun c17 => ?_) (fun c17 => ?_)
            · have h := h.1 c17
              exact b197 K10 hK10 y2 (y3 + 1) y4 S H locs ls ry2 h16 ry4 (lo_mask (bs := [true, true, true, true, true, false, false, false]) hl rfl rfl) G h
            · have h := h.2 c17
              refine gx_iload C hl dX12_breaks_181 rfl ?_
              refine gx_aload_n C hl dX12_breaks_183 rfl ?_
              refine gx_getF C G rfl (fX12_o hV) (fo11_1 (fX12_c hV)) (fX12_time hV) uw_956 (fun _ h9 => h9) dX12_breaks_184 ?_
              refine gx_bipush C dX12_breaks_187 (by decide) ?_
              refine gx_iald C G rfl (fX12_time_l hV) (fX12_time_t hV) (show rng 10 by decide) (by decide) (ixl (fX12_time_n hV) (by decide)) dX12_breaks_189 ?_
              have r18 := G.r (o + 1) (Int.toNat 10)
              refine gx_icmp_ge (tgt := 197) C ry5 r18 dX12_breaks_190 (by decide) (fun c19 => ?_) (fun c19 => ?_)
              · have h := h.1 c19
                exact b197 K10 hK10 y2 (y3 + 1) y4 S H locs ls ry2 h16 ry4 (lo_mask (bs := [true, true, true, true, true, false, false, false]) hl rfl rfl) G h
              · have h := h.2 c19
                refine gx_iconst C dX12_breaks_193 ?_
                refine gx_goto (tgt := 198) C dX12_breaks_194 (by decide) ?_
                exact b198 K10 hK10 y2 (y3 + 1) y4 1 S H locs ls ry2 h16 ry4 (show rng 1 by decide) (lo_mask (bs := [true, true, true, true, true, false, false, false]) hl rfl rfl) G h
      · have h := h.2 c9
        refine gx_iload C hl dX12_breaks_40 rfl ?_
        refine gx_bipush C dX12_breaks_42 (by decide) ?_
        refine gx_icmp_eq (tgt := 123) C ry6 (show rng 10 by decide) dX12_breaks_44 (by decide) (fun c20 => ?_) (fun c20 => ?_)
        · have h := h.1 c20
          exact b123 K10 hK10 (B_X12_breaks_35 V o x1 K10 Q n) ih y2 y3 y4 y5 y6 S H locs ls ry2 ry3 ry4 ry5 ry6 hl G h
        · have h := h.2 c20
          refine gx_iload C hl dX12_breaks_47 rfl ?_
          refine gx_aload_n C hl dX12_breaks_49 rfl ?_
          refine gx_iload C hl dX12_breaks_50 rfl ?_
          refine gx_aload_n C hl dX12_breaks_52 rfl ?_
          refine gx_getF C G rfl (fX12_o hV) (fo11_33 (fX12_c hV)) (fX12_logWhat hV) uw_988 (fun _ h9 => h9) dX12_breaks_53 ?_
          refine gx_iload C hl dX12_breaks_56 rfl ?_
          obtain ⟨h21, h⟩ := h
          refine gx_iald C G rfl (fX12_logWhat_l hV) (fX12_logWhat_t hV) ry4 h21.1 (ixl (fX12_logWhat_n hV) h21.2) dX12_breaks_58 ?_
          have r22 := G.r (o + 18) (Int.toNat y4)
          refine gx_aload_n C hl dX12_breaks_59 rfl ?_
          refine gx_getF C G rfl (fX12_o hV) (fo11_34 (fX12_c hV)) (fX12_logBank hV) uw_989 (fun _ h9 => h9) dX12_breaks_60 ?_
          refine gx_iload C hl dX12_breaks_63 rfl ?_
          obtain ⟨h23, h⟩ := h
          refine gx_iald C G rfl (fX12_logBank_l hV) (fX12_logBank_t hV) ry4 h23.1 (ixl (fX12_logBank_n hV) h23.2) dX12_breaks_65 ?_
          have r24 := G.r (o + 19) (Int.toNat y4)
          refine gx_aload_n C hl dX12_breaks_66 rfl ?_
          refine gx_getF C G rfl (fX12_o hV) (fo11_33 (fX12_c hV)) (fX12_logWhat hV) uw_988 (fun _ h9 => h9) dX12_breaks_67 ?_
          refine gx_iload_n C hl dX12_breaks_70 rfl ?_
          obtain ⟨h25, h⟩ := h
          refine gx_iald C G rfl (fX12_logWhat_l hV) (fX12_logWhat_t hV) rx1 h25.1 (ixl (fX12_logWhat_n hV) h25.2) dX12_breaks_71 ?_
          have r26 := G.r (o + 18) (Int.toNat x1)
          refine gx_aload_n C hl dX12_breaks_72 rfl ?_
          refine gx_getF C G rfl (fX12_o hV) (fo11_34 (fX12_c hV)) (fX12_logBank hV) uw_989 (fun _ h9 => h9) dX12_breaks_73 ?_
          refine gx_iload_n C hl dX12_breaks_76 rfl ?_
          obtain ⟨h27, h⟩ := h
          refine gx_iald C G rfl (fX12_logBank_l hV) (fX12_logBank_t hV) rx1 h27.1 (ixl (fX12_logBank_n hV) h27.2) dX12_breaks_77 ?_
          have r28 := G.r (o + 19) (Int.toNat x1)
          refine gx_callV C G hl hml (c_X12_asked l D cy ad hV ry6 r22 r24 r26 r28 h) rfl (fX12_o hV) (by rw [(fX12_c hV)]; rfl) (by rw [(fX12_c hV)]; decide) rfl uw_1221 uw_1218 uw_1220 up_30 uw_9 hd_X12_asked ⟨Nat.le_of_ble_eq_true rfl, Nat.le_of_ble_eq_true rfl⟩ ⟨Nat.zero_le _, Nat.zero_le _⟩ rfl rfl (hw_le ad [.inl y5] rfl (Nat.le_of_ble_eq_true rfl)) dX12_breaks_78 (kkI (fun t30 S29 H locs rt30 h G => ?_))
          refine gx_icmp_ge (tgt := 123) C ry5 rt30 dX12_breaks_81 (by decide) (fun c31 => ?_) (fun c31 => ?_)
          · have h := h.1 c31
            exact b123 K10 hK10 (B_X12_breaks_35 V o x1 K10 Q n) ih y2 y3 y4 y5 y6 S29 H locs ls ry2 ry3 ry4 ry5 ry6 hl G h
          · have h := h.2 c31
            refine gx_aload_n C hl dX12_breaks_84 rfl ?_
            refine gx_iload C hl dX12_breaks_85 rfl ?_
            refine gx_aload_n C hl dX12_breaks_87 rfl ?_
            refine gx_getF C G rfl (fX12_o hV) (fo11_33 (fX12_c hV)) (fX12_logWhat hV) uw_988 (fun _ h9 => h9) dX12_breaks_88 ?_
            refine gx_iload C hl dX12_breaks_91 rfl ?_
            obtain ⟨h32, h⟩ := h
            refine gx_iald C G rfl (fX12_logWhat_l hV) (fX12_logWhat_t hV) ry4 h32.1 (ixl (fX12_logWhat_n hV) h32.2) dX12_breaks_93 ?_
            have r33 := G.r (o + 18) (Int.toNat y4)
            refine gx_aload_n C hl dX12_breaks_94 rfl ?_
            refine gx_getF C G rfl (fX12_o hV) (fo11_34 (fX12_c hV)) (fX12_logBank hV) uw_989 (fun _ h9 => h9) dX12_breaks_95 ?_
            refine gx_iload C hl dX12_breaks_98 rfl ?_
            obtain ⟨h34, h⟩ := h
            refine gx_iald C G rfl (fX12_logBank_l hV) (fX12_logBank_t hV) ry4 h34.1 (ixl (fX12_logBank_n hV) h34.2) dX12_breaks_100 ?_
            have r35 := G.r (o + 19) (Int.toNat y4)
            refine gx_aload_n C hl dX12_breaks_101 rfl ?_
            refine gx_getF C G rfl (fX12_o hV) (fo11_33 (fX12_c hV)) (fX12_logWhat hV) uw_988 (fun _ h9 => h9) dX12_breaks_102 ?_
            refine gx_iload_n C hl dX12_breaks_105 rfl ?_
            obtain ⟨h36, h⟩ := h
            refine gx_iald C G rfl (fX12_logWhat_l hV) (fX12_logWhat_t hV) rx1 h36.1 (ixl (fX12_logWhat_n hV) h36.2) dX12_breaks_106 ?_
            have r37 := G.r (o + 18) (Int.toNat x1)
            refine gx_aload_n C hl dX12_breaks_107 rfl ?_
            refine gx_getF C G rfl (fX12_o hV) (fo11_34 (fX12_c hV)) (fX12_logBank hV) uw_989 (fun _ h9 => h9) dX12_breaks_108 ?_
            refine gx_iload_n C hl dX12_breaks_111 rfl ?_
            obtain ⟨h38, h⟩ := h
            refine gx_iald C G rfl (fX12_logBank_l hV) (fX12_logBank_t hV) rx1 h38.1 (ixl (fX12_logBank_n hV) h38.2) dX12_breaks_112 ?_
            have r39 := G.r (o + 19) (Int.toNat x1)
            refine gx_callV C G hl hml (c_X12_asked l D cy ad hV ry6 r33 r35 r37 r39 h) rfl (fX12_o hV) (by rw [(fX12_c hV)]; rfl) (by rw [(fX12_c hV)]; decide) rfl uw_1221 uw_1218 uw_1220 up_30 uw_9 hd_X12_asked ⟨Nat.le_of_ble_eq_true rfl, Nat.le_of_ble_eq_true rfl⟩ ⟨Nat.zero_le _, Nat.zero_le _⟩ rfl rfl (hw_le ad [] rfl (Nat.le_of_ble_eq_true rfl)) dX12_breaks_113 (kkI (fun t41 S40 H locs rt41 h G => ?_))
            refine gx_if_le (tgt := 123) C rt41 dX12_breaks_116 (by decide) (fun c42 => ?_) (fun c42 => ?_)
            · have h := h.1 c42
              exact b123 K10 hK10 (B_X12_breaks_35 V o x1 K10 Q n) ih y2 y3 y4 y5 y6 S40 H locs ls ry2 ry3 ry4 ry5 ry6 hl G h
            · have h := h.2 c42
              refine gx_iconst C dX12_breaks_119 ?_
              refine gx_goto (tgt := 124) C dX12_breaks_120 (by decide) ?_
              exact b124 K10 hK10 (B_X12_breaks_35 V o x1 K10 Q n) ih y2 y3 y4 y5 y6 1 S40 H locs ls ry2 ry3 ry4 ry5 ry6 (show rng 1 by decide) hl G h
  have b10 : ∀ (n : Nat) (y2 : Int) (y3 : Int) (y4 : Int) (S : Me) (H : Heap) (locs : List Loc) (ls : Array Slot), rng y2 → rng y3 → rng y4 → lo ad ls [some (.inr (some o)), some (.inl x1), some (.inl y2), some (.inl y3), some (.inl y4), none, none, none] → Gy D cy A s.heap ad V S H locs → B_X12_breaks_10 V o x1 Q n y2 y3 y4 S → W p l e (rmx 1 30) s m args below meth c H locs 0 0 (qm below D cy ad V A args s (qI Q)) (F0 m 10 ls []) := by
    intro n
    induction n with
    | zero =>
      intro y2 y3 y4 S H locs ls ry2 ry3 ry4 hl G h
      exact absurd h id
    | succ n ih =>
      intro y2 y3 y4 S H locs ls ry2 ry3 ry4 hl G h
      rw [B_X12_breaks_10] at h
      refine gx_iload C hl dX12_breaks_10 rfl ?_
      refine gx_if_lt (tgt := 228) C ry4 dX12_breaks_12 (by decide) (fun c43 => ?_) (fun c43 => ?_)
      · have h := h.1 c43
        refine gx_iload_n C hl dX12_breaks_228 rfl ?_
        exact gx_iret C G hret ry2 h dX12_breaks_229
      · have h := h.2 c43
        refine gx_aload_n C hl dX12_breaks_15 rfl ?_
        refine gx_getF C G rfl (fX12_o hV) (fo11_32 (fX12_c hV)) (fX12_logForged hV) uw_987 (fun _ h9 => h9) dX12_breaks_16 ?_
        refine gx_iload_n C hl dX12_breaks_19 rfl ?_
        obtain ⟨h44, h⟩ := h
        refine gx_iald C G rfl (fX12_logForged_l hV) (fX12_logForged_t hV) rx1 h44.1 (ixl (fX12_logForged_n hV) h44.2) dX12_breaks_20 ?_
        have r45 := G.r (o + 17) (Int.toNat x1)
        refine gx_aload_n C hl dX12_breaks_21 rfl ?_
        refine gx_getF C G rfl (fX12_o hV) (fo11_32 (fX12_c hV)) (fX12_logForged hV) uw_987 (fun _ h9 => h9) dX12_breaks_22 ?_
        refine gx_iload C hl dX12_breaks_25 rfl ?_
        obtain ⟨h46, h⟩ := h
        refine gx_iald C G rfl (fX12_logForged_l hV) (fX12_logForged_t hV) ry4 h46.1 (ixl (fX12_logForged_n hV) h46.2) dX12_breaks_27 ?_
        have r47 := G.r (o + 17) (Int.toNat y4)
        obtain ⟨h48, h⟩ := h
        refine gx_isub C dX12_breaks_28 ?_
        refine gx_istore C hl dX12_breaks_29 (Nat.le_of_ble_eq_true rfl) (PL' := [some (.inr (some o)), some (.inl x1), some (.inl y2), some (.inl y3), some (.inl y4), some (.inl ((S.1 (o + 17) (Int.toNat x1)) - (S.1 (o + 17) (Int.toNat y4)))), none, none]) rfl (fun ls hl => ?_)
        refine gx_bipush C dX12_breaks_31 (by decide) ?_
        refine gx_istore C hl dX12_breaks_33 (Nat.le_of_ble_eq_true rfl) (PL' := [some (.inr (some o)), some (.inl x1), some (.inl y2), some (.inl y3), some (.inl y4), some (.inl ((S.1 (o + 17) (Int.toNat x1)) - (S.1 (o + 17) (Int.toNat y4)))), some (.inl 12), none]) rfl (fun ls hl => ?_)
        obtain ⟨n9, h⟩ := h
        exact b35 (B_X12_breaks_10 V o x1 Q n) ih n9 y2 y3 y4 ((S.1 (o + 17) (Int.toNat x1)) - (S.1 (o + 17) (Int.toNat y4))) 12 S H locs ls ry2 ry3 ry4 h48 (show rng 12 by decide) hl G h
  clear eA
  unfold PT_X12_breaks at h
  refine gx_bipush C dX12_breaks_0 (by decide) ?_
  refine gx_istore_n C hl dX12_breaks_2 (Nat.le_of_ble_eq_true rfl) (PL' := [some (.inr (some o)), some (.inl x1), some (.inl (-2)), none, none, none, none, none]) rfl (fun ls hl => ?_)
  refine gx_iconst C dX12_breaks_3 ?_
  refine gx_istore_n C hl dX12_breaks_4 (Nat.le_of_ble_eq_true rfl) (PL' := [some (.inr (some o)), some (.inl x1), some (.inl (-2)), some (.inl 0), none, none, none, none]) rfl (fun ls hl => ?_)
  refine gx_iload_n C hl dX12_breaks_5 rfl ?_
  refine gx_iconst C dX12_breaks_6 ?_
  obtain ⟨h49, h⟩ := h
  refine gx_isub C dX12_breaks_7 ?_
  refine gx_istore C hl dX12_breaks_8 (Nat.le_of_ble_eq_true rfl) (PL' := [some (.inr (some o)), some (.inl x1), some (.inl (-2)), some (.inl 0), some (.inl (x1 - 1)), none, none, none]) rfl (fun ls hl => ?_)
  obtain ⟨n9, h⟩ := h
  exact b10 n9 (-2) 0 (x1 - 1) S H locs ls (show rng (-2) by decide) (show rng 0 by decide) h49 hl G h
def B_X12_check_73 (V : Vt) (o : Nat) (y1 : Int) (w0 : Option Nat) (w1 : Int) (S : Me) (Q : Int → Me → Prop) : Prop := ∃ z1 : Nat, w0 = some z1 ∧ fX12 V z1 ∧ ∀ S2 : Me, S2 = sI S z1 37 w1 → Q y1 S2
def B_X12_check_62 (V : Vt) (o : Nat) (y1 : Int) (y2 : Int) (S : Me) (Q : Int → Me → Prop) : Prop := ((y2 < 0 → B_X12_check_73 V o y1 (some o) 13 S Q) ∧ (¬ y2 < 0 → B_X12_check_73 V o y1 (some o) y2 S Q))
def B_X12_check_53 (V : Vt) (o : Nat) (K13 : Int → Me → Prop) (y1 : Int) (y2 : Int) (w0 : Int) (S : Me) (Q : Int → Me → Prop) : Prop := ((0 ≤ y2 → B_X12_check_62 V o y1 y2 S Q) ∧ (¬ 0 ≤ y2 → ((¬ w0 = 0 → (rng (y1 + 1)) ∧ K13 (y1 + 1) S) ∧ (w0 = 0 → B_X12_check_62 V o y1 y2 S Q))))
def B_X12_check_48 (V : Vt) (o : Nat) (K13 : Int → Me → Prop) (y1 : Int) (y2 : Int) (S : Me) (Q : Int → Me → Prop) : Prop := B_X12_check_53 V o K13 y1 y2 1 S Q
def B_X12_check_13 (V : Vt) (o : Nat) (Q : Int → Me → Prop) : Nat → (Int → Me → Prop)
  | 0 => fun _ _ => False
  | n + 1 => fun y1 S => (((S.1 o 30) ≤ y1 → Q (-2) S) ∧ (¬ (S.1 o 30) ≤ y1 → PT_X12_breaks V o y1 S (fun t10 S9 => ((y1 = 0 → B_X12_check_48 V o (B_X12_check_13 V o Q n) y1 t10 S9 Q) ∧ (¬ y1 = 0 → (0 ≤ y1 ∧ y1 < 400) ∧ (rng (y1 - 1)) ∧ (0 ≤ (y1 - 1) ∧ (y1 - 1) < 400) ∧ (((S9.1 (o + 17) (Int.toNat y1)) ≤ (S9.1 (o + 17) (Int.toNat (y1 - 1))) → B_X12_check_53 V o (B_X12_check_13 V o Q n) y1 t10 0 S9 Q) ∧ (¬ (S9.1 (o + 17) (Int.toNat y1)) ≤ (S9.1 (o + 17) (Int.toNat (y1 - 1))) → B_X12_check_48 V o (B_X12_check_13 V o Q n) y1 t10 S9 Q)))))))
def PT_X12_check (V : Vt) (o : Nat) (S : Me) (Q : Int → Me → Prop) : Prop := ∀ S18 : Me, S18 = sI S o 0 0 → ∀ S19 : Me, S19 = sI S18 o 37 (-2) → (∃ n9 : Nat, B_X12_check_13 V o Q n9 0 S19)
theorem hd_X12_check : yX12_check.cls ≠ "java/lang/invoke/MethodHandle" ∧ yX12_check.cls ≠ "java/lang/invoke/VarHandle" ∧ (parseMethodDescriptor yX12_check.desc).map (fun d => d.parameters.length) = some 0 := by decide +kernel
set_option maxHeartbeats 4000000 in
set_option maxRecDepth 100000 in
theorem c_X12_check (l : Launch) (D : va_G) (cy : ClassId × ClassId × ClassId × ClassId) (ad : Nat → Nat) {V : Vt} {S : Me} {o : Nat} (hV : fX12 V o) {Q : Int → Me → Prop} (h : PT_X12_check V o S Q) : KM l D cy yX12_check cX12_check 4 (Option.some Jvm.ClassFile.FieldType.int) 2 57 ad V S [.inr (some o)] (qI Q) := by
  refine KM.of (by decide) rfl (Nat.le_of_ble_eq_true rfl) (own := RX12) (fun p e s m args below meth c A ls H locs eA C hret hml hmn hl G => ?_)
  have hl : lo ad ls [some (.inr (some o)), none, none, none] := hl
  have b73 : ∀ (y1 : Int) (w0 : Option Nat) (w1 : Int) (S : Me) (H : Heap) (locs : List Loc) (ls : Array Slot), rng y1 → (∀ z, w0 = some z → z < V.1) → rng w1 → lo ad ls [some (.inr (some o)), some (.inl y1), none, none] → Gy D cy A s.heap ad V S H locs → B_X12_check_73 V o y1 w0 w1 S Q → W p l e (rmx 2 57) s m args below meth c H locs 0 0 (qm below D cy ad V A args s (qI Q)) (F0 m 73 ls [vI w1, vR ad w0]) := by
    intro y1 w0 w1 S H locs ls ry1 vw0 rw1 hl G h
    unfold B_X12_check_73 at h
    obtain ⟨z1, hz1, tz1, h⟩ := h
    have lz1 := (vw0 z1 hz1)
    refine gx_putI C G hz1 lz1 (fo11_37 (fX12_c tz1)) rw1 uw_992 (fun _ h9 => h9) dX12_check_73 (fun H locs G => ?_)
    obtain ⟨S2, eS2⟩ : ∃ q9 : Me, q9 = sI S z1 37 w1 := ⟨_, rfl⟩
    have h := h S2 eS2
    rw [← eS2] at G
    refine gx_iload_n C hl dX12_check_76 rfl ?_
    exact gx_iret C G hret ry1 h dX12_check_77
  have b62 : ∀ (y1 : Int) (y2 : Int) (S : Me) (H : Heap) (locs : List Loc) (ls : Array Slot), rng y1 → rng y2 → lo ad ls [some (.inr (some o)), some (.inl y1), some (.inl y2), none] → Gy D cy A s.heap ad V S H locs → B_X12_check_62 V o y1 y2 S Q → W p l e (rmx 2 57) s m args below meth c H locs 0 0 (qm below D cy ad V A args s (qI Q)) (F0 m 62 ls []) := by
    intro y1 y2 S H locs ls ry1 ry2 hl G h
    unfold B_X12_check_62 at h
    refine gx_aload_n C hl dX12_check_62 rfl ?_
    refine gx_iload_n C hl dX12_check_63 rfl ?_
    refine gx_if_lt (tgt := 71) C ry2 dX12_check_64 (by decide) (fun c3 => ?_) (fun c3 => ?_)
    · have h := h.1 c3
      refine gx_bipush C dX12_check_71 (by decide) ?_
      exact b73 y1 (some o) 13 S H locs ls ry1 (vsome (fX12_o hV)) (show rng 13 by decide) (lo_mask (bs := [true, true, false, false]) hl rfl rfl) G h
    · have h := h.2 c3
      refine gx_iload_n C hl dX12_check_67 rfl ?_
      refine gx_goto (tgt := 73) C dX12_check_68 (by decide) ?_
      exact b73 y1 (some o) y2 S H locs ls ry1 (vsome (fX12_o hV)) ry2 (lo_mask (bs := [true, true, false, false]) hl rfl rfl) G h
  have b53 : ∀ (K13 : Int → Me → Prop) (hK13 : ∀ (y1 : Int) (S : Me) (H : Heap) (locs : List Loc) (ls : Array Slot), rng y1 → lo ad ls [some (.inr (some o)), some (.inl y1), none, none] → Gy D cy A s.heap ad V S H locs → K13 y1 S → W p l e (rmx 2 57) s m args below meth c H locs 0 0 (qm below D cy ad V A args s (qI Q)) (F0 m 13 ls [])) (y1 : Int) (y2 : Int) (w0 : Int) (S : Me) (H : Heap) (locs : List Loc) (ls : Array Slot), rng y1 → rng y2 → rng w0 → lo ad ls [some (.inr (some o)), some (.inl y1), some (.inl y2), none] → Gy D cy A s.heap ad V S H locs → B_X12_check_53 V o K13 y1 y2 w0 S Q → W p l e (rmx 2 57) s m args below meth c H locs 0 0 (qm below D cy ad V A args s (qI Q)) (F0 m 53 ls [vI w0]) := by
    intro K13 hK13 y1 y2 w0 S H locs ls ry1 ry2 rw0 hl G h
    unfold B_X12_check_53 at h
    refine gx_istore_n C hl dX12_check_53 (Nat.le_of_ble_eq_true rfl) (PL' := [some (.inr (some o)), some (.inl y1), some (.inl y2), some (.inl w0)]) rfl (fun ls hl => ?_)
    refine gx_iload_n C hl dX12_check_54 rfl ?_
    refine gx_if_ge (tgt := 62) C ry2 dX12_check_55 (by decide) (fun c4 => ?_) (fun c4 => ?_)
    · have h := h.1 c4
      exact b62 y1 y2 S H locs ls ry1 ry2 (lo_mask (bs := [true, true, true, false]) hl rfl rfl) G h
    · have h := h.2 c4
      refine gx_iload_n C hl dX12_check_58 rfl ?_
      refine gx_if_ne (tgt := 78) C rw0 dX12_check_59 (by decide) (fun c5 => ?_) (fun c5 => ?_)
      · have h := h.1 c5
        obtain ⟨h6, h⟩ := h
        refine gx_iinc C hl dX12_check_78 rfl (PL' := [some (.inr (some o)), some (.inl (y1 + 1)), some (.inl y2), some (.inl w0)]) rfl (fun ls hl => ?_)
        refine gx_goto (tgt := 13) C dX12_check_81 (by decide) ?_
        exact hK13 (y1 + 1) S H locs ls h6 (lo_mask (bs := [true, true, false, false]) hl rfl rfl) G h
      · have h := h.2 c5
        exact b62 y1 y2 S H locs ls ry1 ry2 (lo_mask (bs := [true, true, true, false]) hl rfl rfl) G h
  have b48 : ∀ (K13 : Int → Me → Prop) (hK13 : ∀ (y1 : Int) (S : Me) (H : Heap) (locs : List Loc) (ls : Array Slot), rng y1 → lo ad ls [some (.inr (some o)), some (.inl y1), none, none] → Gy D cy A s.heap ad V S H locs → K13 y1 S → W p l e (rmx 2 57) s m args below meth c H locs 0 0 (qm below D cy ad V A args s (qI Q)) (F0 m 13 ls [])) (y1 : Int) (y2 : Int) (S : Me) (H : Heap) (locs : List Loc) (ls : Array Slot), rng y1 → rng y2 → lo ad ls [some (.inr (some o)), some (.inl y1), some (.inl y2), none] → Gy D cy A s.heap ad V S H locs → B_X12_check_48 V o K13 y1 y2 S Q → W p l e (rmx 2 57) s m args below meth c H locs 0 0 (qm below D cy ad V A args s (qI Q)) (F0 m 48 ls []) := by
    intro K13 hK13 y1 y2 S H locs ls ry1 ry2 hl G h
    unfold B_X12_check_48 at h
    refine gx_iconst C dX12_check_48 ?_
    refine gx_goto (tgt := 53) C dX12_check_49 (by decide) ?_
    exact b53 K13 hK13 y1 y2 1 S H locs ls ry1 ry2 (show rng 1 by decide) hl G h
  have b13 : ∀ (n : Nat) (y1 : Int) (S : Me) (H : Heap) (locs : List Loc) (ls : Array Slot), rng y1 → lo ad ls [some (.inr (some o)), some (.inl y1), none, none] → Gy D cy A s.heap ad V S H locs → B_X12_check_13 V o Q n y1 S → W p l e (rmx 2 57) s m args below meth c H locs 0 0 (qm below D cy ad V A args s (qI Q)) (F0 m 13 ls []) := by
    intro n
    induction n with
    | zero =>
      intro y1 S H locs ls ry1 hl G h
      exact absurd h id
    | succ n ih =>
      intro y1 S H locs ls ry1 hl G h
      rw [B_X12_check_13] at h
      refine gx_iload_n C hl dX12_check_13 rfl ?_
      refine gx_aload_n C hl dX12_check_14 rfl ?_
      refine gx_getI C G rfl (fX12_o hV) (fo11_30 (fX12_c hV)) uw_985 (fun _ h9 => h9) dX12_check_15 ?_
      have r7 := G.r o 30
      refine gx_icmp_ge (tgt := 84) C ry1 r7 dX12_check_18 (by decide) (fun c8 => ?_) (fun c8 => ?_)
      · have h := h.1 c8
        refine gx_bipush C dX12_check_84 (by decide) ?_
        exact gx_iret C G hret (show rng (-2) by decide) h dX12_check_86
      · have h := h.2 c8
        refine gx_aload_n C hl dX12_check_21 rfl ?_
        refine gx_iload_n C hl dX12_check_22 rfl ?_
        refine gx_callV C G hl hml (c_X12_breaks l D cy ad hV ry1 h) rfl (fX12_o hV) (by rw [(fX12_c hV)]; rfl) (by rw [(fX12_c hV)]; decide) rfl uw_1318 uw_1315 uw_1317 up_42 uw_9 hd_X12_breaks ⟨Nat.le_of_ble_eq_true rfl, Nat.le_of_ble_eq_true rfl⟩ ⟨Nat.zero_le _, Nat.zero_le _⟩ rfl rfl (hw_le ad [] rfl (Nat.le_of_ble_eq_true rfl)) dX12_check_23 (kkI (fun t10 S9 H locs rt10 h G => ?_))
        refine gx_istore_n C hl dX12_check_26 (Nat.le_of_ble_eq_true rfl) (PL' := [some (.inr (some o)), some (.inl y1), some (.inl t10), none]) rfl (fun ls hl => ?_)
        refine gx_iload_n C hl dX12_check_27 rfl ?_
        refine gx_if_eq (tgt := 48) C ry1 dX12_check_28 (by decide) (fun c11 => ?_) (fun c11 => ?_)
        · have h := h.1 c11
          exact b48 (B_X12_check_13 V o Q n) ih y1 t10 S9 H locs ls ry1 rt10 hl G h
        · have h := h.2 c11
          refine gx_aload_n C hl dX12_check_31 rfl ?_
          refine gx_getF C G rfl (fX12_o hV) (fo11_32 (fX12_c hV)) (fX12_logForged hV) uw_987 (fun _ h9 => h9) dX12_check_32 ?_
          refine gx_iload_n C hl dX12_check_35 rfl ?_
          obtain ⟨h12, h⟩ := h
          refine gx_iald C G rfl (fX12_logForged_l hV) (fX12_logForged_t hV) ry1 h12.1 (ixl (fX12_logForged_n hV) h12.2) dX12_check_36 ?_
          have r13 := G.r (o + 17) (Int.toNat y1)
          refine gx_aload_n C hl dX12_check_37 rfl ?_
          refine gx_getF C G rfl (fX12_o hV) (fo11_32 (fX12_c hV)) (fX12_logForged hV) uw_987 (fun _ h9 => h9) dX12_check_38 ?_
          refine gx_iload_n C hl dX12_check_41 rfl ?_
          refine gx_iconst C dX12_check_42 ?_
          obtain ⟨h14, h⟩ := h
          refine gx_isub C dX12_check_43 ?_
          obtain ⟨h15, h⟩ := h
          refine gx_iald C G rfl (fX12_logForged_l hV) (fX12_logForged_t hV) h14 h15.1 (ixl (fX12_logForged_n hV) h15.2) dX12_check_44 ?_
          have r16 := G.r (o + 17) (Int.toNat (y1 - 1))
          refine gx_icmp_le (tgt := 52) C r13 r16 dX12_check_45 (by decide) (fun c17 => ?_) (fun c17 => ?_)
          · have h := h.1 c17
            refine gx_iconst C dX12_check_52 ?_
            exact b53 (B_X12_check_13 V o Q n) ih y1 t10 0 S9 H locs ls ry1 rt10 (show rng 0 by decide) hl G h
          · have h := h.2 c17
            exact b48 (B_X12_check_13 V o Q n) ih y1 t10 S9 H locs ls ry1 rt10 hl G h
  clear eA
  unfold PT_X12_check at h
  refine gx_aload_n C hl dX12_check_0 rfl ?_
  refine gx_iconst C dX12_check_1 ?_
  refine gx_putI C G rfl (fX12_o hV) (fo11_0 (fX12_c hV)) (show rng 0 by decide) uw_955 (fun _ h9 => h9) dX12_check_2 (fun H locs G => ?_)
  obtain ⟨S18, eS18⟩ : ∃ q9 : Me, q9 = sI S o 0 0 := ⟨_, rfl⟩
  have h := h S18 eS18
  rw [← eS18] at G
  refine gx_aload_n C hl dX12_check_5 rfl ?_
  refine gx_bipush C dX12_check_6 (by decide) ?_
  refine gx_putI C G rfl (fX12_o hV) (fo11_37 (fX12_c hV)) (show rng (-2) by decide) uw_992 (fun _ h9 => h9) dX12_check_8 (fun H locs G => ?_)
  obtain ⟨S19, eS19⟩ : ∃ q9 : Me, q9 = sI S18 o 37 (-2) := ⟨_, rfl⟩
  have h := h S19 eS19
  rw [← eS19] at G
  refine gx_iconst C dX12_check_11 ?_
  refine gx_istore_n C hl dX12_check_12 (Nat.le_of_ble_eq_true rfl) (PL' := [some (.inr (some o)), some (.inl 0), none, none]) rfl (fun ls hl => ?_)
  obtain ⟨n9, h⟩ := h
  exact b13 n9 0 S19 H locs ls (show rng 0 by decide) hl G h
def PT_X12_broken (V : Vt) (o : Nat) (S : Me) (Q : Int → Me → Prop) : Prop := ∀ S1 : Me, S1 = sI S o 0 0 → Q (S1.1 o 37) S1
theorem hd_X12_broken : yX12_broken.cls ≠ "java/lang/invoke/MethodHandle" ∧ yX12_broken.cls ≠ "java/lang/invoke/VarHandle" ∧ (parseMethodDescriptor yX12_broken.desc).map (fun d => d.parameters.length) = some 0 := by decide +kernel
set_option maxHeartbeats 4000000 in
set_option maxRecDepth 100000 in
theorem c_X12_broken (l : Launch) (D : va_G) (cy : ClassId × ClassId × ClassId × ClassId) (ad : Nat → Nat) {V : Vt} {S : Me} {o : Nat} (hV : fX12 V o) {Q : Int → Me → Prop} (h : PT_X12_broken V o S Q) : KM l D cy yX12_broken cX12_broken 1 (Option.some Jvm.ClassFile.FieldType.int) 0 0 ad V S [.inr (some o)] (qI Q) := by
  refine KM.of (by decide) rfl (Nat.le_of_ble_eq_true rfl) (own := RX12) (fun p e s m args below meth c A ls H locs eA C hret hml hmn hl G => ?_)
  have hl : lo ad ls [some (.inr (some o))] := hl
  clear eA
  unfold PT_X12_broken at h
  refine gx_aload_n C hl dX12_broken_0 rfl ?_
  refine gx_iconst C dX12_broken_1 ?_
  refine gx_putI C G rfl (fX12_o hV) (fo11_0 (fX12_c hV)) (show rng 0 by decide) uw_955 (fun _ h9 => h9) dX12_broken_2 (fun H locs G => ?_)
  obtain ⟨S1, eS1⟩ : ∃ q9 : Me, q9 = sI S o 0 0 := ⟨_, rfl⟩
  have h := h S1 eS1
  rw [← eS1] at G
  refine gx_aload_n C hl dX12_broken_5 rfl ?_
  refine gx_getI C G rfl (fX12_o hV) (fo11_37 (fX12_c hV)) uw_992 (fun _ h9 => h9) dX12_broken_6 ?_
  have r2 := G.r o 37
  exact gx_iret C G hret r2 h dX12_broken_9
def B_X12_worst_106 (V : Vt) (o : Nat) (x1 : Int) (K24 : Int → Int → Me → Prop) (y3 : Int) (w0 : Int) (S : Me) (Q : Int → Me → Prop) : Prop := (rng (y3 + 1)) ∧ K24 w0 (y3 + 1) S
def B_X12_worst_82 (V : Vt) (o : Nat) (x1 : Int) (K24 : Int → Int → Me → Prop) (y2 : Int) (y3 : Int) (w0 : Int) (S : Me) (Q : Int → Me → Prop) : Prop := ((w0 = 0 → B_X12_worst_106 V o x1 K24 y3 y2 S Q) ∧ (¬ w0 = 0 → (0 ≤ y3 ∧ y3 < 400) ∧ (0 ≤ y3 ∧ y3 < 400) ∧ (rng ((S.1 (o + 10) (Int.toNat y3)) - (S.1 (o + 9) (Int.toNat y3)))) ∧ B_X12_worst_106 V o x1 K24 y3 ((S.1 (o + 10) (Int.toNat y3)) - (S.1 (o + 9) (Int.toNat y3))) S Q))
def B_X12_worst_81 (V : Vt) (o : Nat) (x1 : Int) (K24 : Int → Int → Me → Prop) (y2 : Int) (y3 : Int) (S : Me) (Q : Int → Me → Prop) : Prop := B_X12_worst_82 V o x1 K24 y2 y3 0 S Q
def B_X12_worst_24 (V : Vt) (o : Nat) (x1 : Int) (Q : Int → Me → Prop) : Nat → (Int → Int → Me → Prop)
  | 0 => fun _ _ _ => False
  | n + 1 => fun y2 y3 S => (((S.1 o 13) ≤ y3 → Q y2 S) ∧ (¬ (S.1 o 13) ≤ y3 → (0 ≤ y3 ∧ y3 < 400) ∧ ((¬ (S.1 (o + 5) (Int.toNat y3)) = x1 → B_X12_worst_81 V o x1 (B_X12_worst_24 V o x1 Q n) y2 y3 S Q) ∧ ((S.1 (o + 5) (Int.toNat y3)) = x1 → (0 ≤ y3 ∧ y3 < 400) ∧ (((S.1 (o + 4) (Int.toNat y3)) = 4 → B_X12_worst_81 V o x1 (B_X12_worst_24 V o x1 Q n) y2 y3 S Q) ∧ (¬ (S.1 (o + 4) (Int.toNat y3)) = 4 → PT_X12_waits V o y3 S (fun t17 S16 => ((¬ t17 = 0 → B_X12_worst_81 V o x1 (B_X12_worst_24 V o x1 Q n) y2 y3 S16 Q) ∧ (t17 = 0 → (0 ≤ y3 ∧ y3 < 400) ∧ (0 ≤ y3 ∧ y3 < 400) ∧ (rng ((S16.1 (o + 10) (Int.toNat y3)) - (S16.1 (o + 9) (Int.toNat y3)))) ∧ ((((S16.1 (o + 10) (Int.toNat y3)) - (S16.1 (o + 9) (Int.toNat y3))) ≤ y2 → B_X12_worst_81 V o x1 (B_X12_worst_24 V o x1 Q n) y2 y3 S16 Q) ∧ (¬ ((S16.1 (o + 10) (Int.toNat y3)) - (S16.1 (o + 9) (Int.toNat y3))) ≤ y2 → B_X12_worst_82 V o x1 (B_X12_worst_24 V o x1 Q n) y2 y3 1 S16 Q)))))))))))
def PT_X12_worst (V : Vt) (o : Nat) (x1 : Int) (S : Me) (Q : Int → Me → Prop) : Prop := ∀ S25 : Me, S25 = sI S o 0 0 → ((¬ (isin x1 0 3) = 0 → (∃ n9 : Nat, B_X12_worst_24 V o x1 Q n9 (-2) 0 S25)) ∧ ((isin x1 0 3) = 0 → Q (-1) S25))
theorem hd_X12_worst : yX12_worst.cls ≠ "java/lang/invoke/MethodHandle" ∧ yX12_worst.cls ≠ "java/lang/invoke/VarHandle" ∧ (parseMethodDescriptor yX12_worst.desc).map (fun d => d.parameters.length) = some 1 := by decide +kernel
set_option maxHeartbeats 4000000 in
set_option maxRecDepth 100000 in
theorem c_X12_worst (l : Launch) (D : va_G) (cy : ClassId × ClassId × ClassId × ClassId) (ad : Nat → Nat) {V : Vt} {S : Me} {o : Nat} {x1 : Int} (hV : fX12 V o) (rx1 : rng x1) {Q : Int → Me → Prop} (h : PT_X12_worst V o x1 S Q) : KM l D cy yX12_worst cX12_worst 5 (Option.some Jvm.ClassFile.FieldType.int) 1 25 ad V S [.inr (some o), .inl x1] (qI Q) := by
  refine KM.of (by decide) rfl (Nat.le_of_ble_eq_true rfl) (own := RX12) (fun p e s m args below meth c A ls H locs eA C hret hml hmn hl G => ?_)
  have hl : lo ad ls [some (.inr (some o)), some (.inl x1), none, none, none] := hl
  have b106 : ∀ (K24 : Int → Int → Me → Prop) (hK24 : ∀ (y2 : Int) (y3 : Int) (S : Me) (H : Heap) (locs : List Loc) (ls : Array Slot), rng y2 → rng y3 → lo ad ls [some (.inr (some o)), some (.inl x1), some (.inl y2), some (.inl y3), none] → Gy D cy A s.heap ad V S H locs → K24 y2 y3 S → W p l e (rmx 1 25) s m args below meth c H locs 0 0 (qm below D cy ad V A args s (qI Q)) (F0 m 24 ls [])) (y3 : Int) (w0 : Int) (S : Me) (H : Heap) (locs : List Loc) (ls : Array Slot), rng y3 → rng w0 → lo ad ls [some (.inr (some o)), some (.inl x1), none, some (.inl y3), none] → Gy D cy A s.heap ad V S H locs → B_X12_worst_106 V o x1 K24 y3 w0 S Q → W p l e (rmx 1 25) s m args below meth c H locs 0 0 (qm below D cy ad V A args s (qI Q)) (F0 m 106 ls [vI w0]) := by
    intro K24 hK24 y3 w0 S H locs ls ry3 rw0 hl G h
    unfold B_X12_worst_106 at h
    refine gx_istore_n C hl dX12_worst_106 (Nat.le_of_ble_eq_true rfl) (PL' := [some (.inr (some o)), some (.inl x1), some (.inl w0), some (.inl y3), none]) rfl (fun ls hl => ?_)
    obtain ⟨h1, h⟩ := h
    refine gx_iinc C hl dX12_worst_107 rfl (PL' := [some (.inr (some o)), some (.inl x1), some (.inl w0), some (.inl (y3 + 1)), none]) rfl (fun ls hl => ?_)
    refine gx_goto (tgt := 24) C dX12_worst_110 (by decide) ?_
    exact hK24 w0 (y3 + 1) S H locs ls rw0 h1 hl G h
  have b82 : ∀ (K24 : Int → Int → Me → Prop) (hK24 : ∀ (y2 : Int) (y3 : Int) (S : Me) (H : Heap) (locs : List Loc) (ls : Array Slot), rng y2 → rng y3 → lo ad ls [some (.inr (some o)), some (.inl x1), some (.inl y2), some (.inl y3), none] → Gy D cy A s.heap ad V S H locs → K24 y2 y3 S → W p l e (rmx 1 25) s m args below meth c H locs 0 0 (qm below D cy ad V A args s (qI Q)) (F0 m 24 ls [])) (y2 : Int) (y3 : Int) (w0 : Int) (S : Me) (H : Heap) (locs : List Loc) (ls : Array Slot), rng y2 → rng y3 → rng w0 → lo ad ls [some (.inr (some o)), some (.inl x1), some (.inl y2), some (.inl y3), none] → Gy D cy A s.heap ad V S H locs → B_X12_worst_82 V o x1 K24 y2 y3 w0 S Q → W p l e (rmx 1 25) s m args below meth c H locs 0 0 (qm below D cy ad V A args s (qI Q)) (F0 m 82 ls [vI w0]) := by
    intro K24 hK24 y2 y3 w0 S H locs ls ry2 ry3 rw0 hl G h
    unfold B_X12_worst_82 at h
    refine gx_istore C hl dX12_worst_82 (Nat.le_of_ble_eq_true rfl) (PL' := [some (.inr (some o)), some (.inl x1), some (.inl y2), some (.inl y3), some (.inl w0)]) rfl (fun ls hl => ?_)
    refine gx_iload C hl dX12_worst_84 rfl ?_
    refine gx_if_eq (tgt := 105) C rw0 dX12_worst_86 (by decide) (fun c2 => ?_) (fun c2 => ?_)
    · have h := h.1 c2
      refine gx_iload_n C hl dX12_worst_105 rfl ?_
      exact b106 K24 hK24 y3 y2 S H locs ls ry3 ry2 (lo_mask (bs := [true, true, false, true, false]) hl rfl rfl) G h
    · have h := h.2 c2
      refine gx_aload_n C hl dX12_worst_89 rfl ?_
      refine gx_getF C G rfl (fX12_o hV) (fo11_21 (fX12_c hV)) (fX12_done hV) uw_976 (fun _ h9 => h9) dX12_worst_90 ?_
      refine gx_iload_n C hl dX12_worst_93 rfl ?_
      obtain ⟨h3, h⟩ := h
      refine gx_iald C G rfl (fX12_done_l hV) (fX12_done_t hV) ry3 h3.1 (ixl (fX12_done_n hV) h3.2) dX12_worst_94 ?_
      have r4 := G.r (o + 10) (Int.toNat y3)
      refine gx_aload_n C hl dX12_worst_95 rfl ?_
      refine gx_getF C G rfl (fX12_o hV) (fo11_20 (fX12_c hV)) (fX12_came hV) uw_975 (fun _ h9 => h9) dX12_worst_96 ?_
      refine gx_iload_n C hl dX12_worst_99 rfl ?_
      obtain ⟨h5, h⟩ := h
      refine gx_iald C G rfl (fX12_came_l hV) (fX12_came_t hV) ry3 h5.1 (ixl (fX12_came_n hV) h5.2) dX12_worst_100 ?_
      have r6 := G.r (o + 9) (Int.toNat y3)
      obtain ⟨h7, h⟩ := h
      refine gx_isub C dX12_worst_101 ?_
      refine gx_goto (tgt := 106) C dX12_worst_102 (by decide) ?_
      exact b106 K24 hK24 y3 ((S.1 (o + 10) (Int.toNat y3)) - (S.1 (o + 9) (Int.toNat y3))) S H locs ls ry3 h7 (lo_mask (bs := [true, true, false, true, false]) hl rfl rfl) G h
  have b81 : ∀ (K24 : Int → Int → Me → Prop) (hK24 : ∀ (y2 : Int) (y3 : Int) (S : Me) (H : Heap) (locs : List Loc) (ls : Array Slot), rng y2 → rng y3 → lo ad ls [some (.inr (some o)), some (.inl x1), some (.inl y2), some (.inl y3), none] → Gy D cy A s.heap ad V S H locs → K24 y2 y3 S → W p l e (rmx 1 25) s m args below meth c H locs 0 0 (qm below D cy ad V A args s (qI Q)) (F0 m 24 ls [])) (y2 : Int) (y3 : Int) (S : Me) (H : Heap) (locs : List Loc) (ls : Array Slot), rng y2 → rng y3 → lo ad ls [some (.inr (some o)), some (.inl x1), some (.inl y2), some (.inl y3), none] → Gy D cy A s.heap ad V S H locs → B_X12_worst_81 V o x1 K24 y2 y3 S Q → W p l e (rmx 1 25) s m args below meth c H locs 0 0 (qm below D cy ad V A args s (qI Q)) (F0 m 81 ls []) := by
    intro K24 hK24 y2 y3 S H locs ls ry2 ry3 hl G h
    unfold B_X12_worst_81 at h
    refine gx_iconst C dX12_worst_81 ?_
    exact b82 K24 hK24 y2 y3 0 S H locs ls ry2 ry3 (show rng 0 by decide) hl G h
  have b24 : ∀ (n : Nat) (y2 : Int) (y3 : Int) (S : Me) (H : Heap) (locs : List Loc) (ls : Array Slot), rng y2 → rng y3 → lo ad ls [some (.inr (some o)), some (.inl x1), some (.inl y2), some (.inl y3), none] → Gy D cy A s.heap ad V S H locs → B_X12_worst_24 V o x1 Q n y2 y3 S → W p l e (rmx 1 25) s m args below meth c H locs 0 0 (qm below D cy ad V A args s (qI Q)) (F0 m 24 ls []) := by
    intro n
    induction n with
    | zero =>
      intro y2 y3 S H locs ls ry2 ry3 hl G h
      exact absurd h id
    | succ n ih =>
      intro y2 y3 S H locs ls ry2 ry3 hl G h
      rw [B_X12_worst_24] at h
      refine gx_iload_n C hl dX12_worst_24 rfl ?_
      refine gx_aload_n C hl dX12_worst_25 rfl ?_
      refine gx_getI C G rfl (fX12_o hV) (fo11_13 (fX12_c hV)) uw_968 (fun _ h9 => h9) dX12_worst_26 ?_
      have r8 := G.r o 13
      refine gx_icmp_ge (tgt := 113) C ry3 r8 dX12_worst_29 (by decide) (fun c9 => ?_) (fun c9 => ?_)
      · have h := h.1 c9
        refine gx_iload_n C hl dX12_worst_113 rfl ?_
        exact gx_iret C G hret ry2 h dX12_worst_114
      · have h := h.2 c9
        refine gx_aload_n C hl dX12_worst_32 rfl ?_
        refine gx_getF C G rfl (fX12_o hV) (fo11_16 (fX12_c hV)) (fX12_asker hV) uw_971 (fun _ h9 => h9) dX12_worst_33 ?_
        refine gx_iload_n C hl dX12_worst_36 rfl ?_
        obtain ⟨h10, h⟩ := h
        refine gx_iald C G rfl (fX12_asker_l hV) (fX12_asker_t hV) ry3 h10.1 (ixl (fX12_asker_n hV) h10.2) dX12_worst_37 ?_
        have r11 := G.r (o + 5) (Int.toNat y3)
        refine gx_iload_n C hl dX12_worst_38 rfl ?_
        refine gx_icmp_ne (tgt := 81) C r11 rx1 dX12_worst_39 (by decide) (fun c12 => ?_) (fun c12 => ?_)
        · have h := h.1 c12
          exact b81 (B_X12_worst_24 V o x1 Q n) ih y2 y3 S H locs ls ry2 ry3 hl G h
        · have h := h.2 c12
          refine gx_aload_n C hl dX12_worst_42 rfl ?_
          refine gx_getF C G rfl (fX12_o hV) (fo11_15 (fX12_c hV)) (fX12_kind hV) uw_970 (fun _ h9 => h9) dX12_worst_43 ?_
          refine gx_iload_n C hl dX12_worst_46 rfl ?_
          obtain ⟨h13, h⟩ := h
          refine gx_iald C G rfl (fX12_kind_l hV) (fX12_kind_t hV) ry3 h13.1 (ixl (fX12_kind_n hV) h13.2) dX12_worst_47 ?_
          have r14 := G.r (o + 4) (Int.toNat y3)
          refine gx_iconst C dX12_worst_48 ?_
          refine gx_icmp_eq (tgt := 81) C r14 (show rng 4 by decide) dX12_worst_49 (by decide) (fun c15 => ?_) (fun c15 => ?_)
          · have h := h.1 c15
            exact b81 (B_X12_worst_24 V o x1 Q n) ih y2 y3 S H locs ls ry2 ry3 hl G h
          · have h := h.2 c15
            refine gx_aload_n C hl dX12_worst_52 rfl ?_
            refine gx_iload_n C hl dX12_worst_53 rfl ?_
            refine gx_callV C G hl hml (c_X12_waits l D cy ad hV ry3 h) rfl (fX12_o hV) (by rw [(fX12_c hV)]; rfl) (by rw [(fX12_c hV)]; decide) rfl uw_1181 uw_1178 uw_1180 up_20 uw_9 hd_X12_waits ⟨Nat.le_of_ble_eq_true rfl, Nat.le_of_ble_eq_true rfl⟩ ⟨Nat.zero_le _, Nat.zero_le _⟩ rfl rfl (hw_le ad [] rfl (Nat.le_of_ble_eq_true rfl)) dX12_worst_54 (kkI (fun t17 S16 H locs rt17 h G => ?_))
            refine gx_if_ne (tgt := 81) C rt17 dX12_worst_57 (by decide) (fun c18 => ?_) (fun c18 => ?_)
            · have h := h.1 c18
              exact b81 (B_X12_worst_24 V o x1 Q n) ih y2 y3 S16 H locs ls ry2 ry3 hl G h
            · have h := h.2 c18
              refine gx_aload_n C hl dX12_worst_60 rfl ?_
              refine gx_getF C G rfl (fX12_o hV) (fo11_21 (fX12_c hV)) (fX12_done hV) uw_976 (fun _ h9 => h9) dX12_worst_61 ?_
              refine gx_iload_n C hl dX12_worst_64 rfl ?_
              obtain ⟨h19, h⟩ := h
              refine gx_iald C G rfl (fX12_done_l hV) (fX12_done_t hV) ry3 h19.1 (ixl (fX12_done_n hV) h19.2) dX12_worst_65 ?_
              have r20 := G.r (o + 10) (Int.toNat y3)
              refine gx_aload_n C hl dX12_worst_66 rfl ?_
              refine gx_getF C G rfl (fX12_o hV) (fo11_20 (fX12_c hV)) (fX12_came hV) uw_975 (fun _ h9 => h9) dX12_worst_67 ?_
              refine gx_iload_n C hl dX12_worst_70 rfl ?_
              obtain ⟨h21, h⟩ := h
              refine gx_iald C G rfl (fX12_came_l hV) (fX12_came_t hV) ry3 h21.1 (ixl (fX12_came_n hV) h21.2) dX12_worst_71 ?_
              have r22 := G.r (o + 9) (Int.toNat y3)
              obtain ⟨h23, h⟩ := h
              refine gx_isub C dX12_worst_72 ?_
              refine gx_iload_n C hl dX12_worst_73 rfl ?_
              refine gx_icmp_le (tgt := 81) C h23 ry2 dX12_worst_74 (by decide) (fun c24 => ?_) (fun c24 => ?_)
              · have h := h.1 c24
                exact b81 (B_X12_worst_24 V o x1 Q n) ih y2 y3 S16 H locs ls ry2 ry3 hl G h
              · have h := h.2 c24
                refine gx_iconst C dX12_worst_77 ?_
                refine gx_goto (tgt := 82) C dX12_worst_78 (by decide) ?_
                exact b82 (B_X12_worst_24 V o x1 Q n) ih y2 y3 1 S16 H locs ls ry2 ry3 (show rng 1 by decide) hl G h
  clear eA
  unfold PT_X12_worst at h
  refine gx_aload_n C hl dX12_worst_0 rfl ?_
  refine gx_iconst C dX12_worst_1 ?_
  refine gx_putI C G rfl (fX12_o hV) (fo11_0 (fX12_c hV)) (show rng 0 by decide) uw_955 (fun _ h9 => h9) dX12_worst_2 (fun H locs G => ?_)
  obtain ⟨S25, eS25⟩ : ∃ q9 : Me, q9 = sI S o 0 0 := ⟨_, rfl⟩
  have h := h S25 eS25
  rw [← eS25] at G
  refine gx_iload_n C hl dX12_worst_5 rfl ?_
  refine gx_i2l C rx1 dX12_worst_6 ?_
  refine gx_lconst (x := 0) C (by decide) dX12_worst_7 ?_
  refine gx_ldc2 (n := 3) C uw_1138 dX12_worst_8 ?_
  refine gx_isIn C G hl hml rx1 (show rng 0 by decide) (show rng 3 by decide) uw_1115 ⟨Nat.le_of_ble_eq_true rfl, Nat.le_of_ble_eq_true rfl⟩ ⟨Nat.zero_le _, Nat.zero_le _⟩ (hw_le ad [] rfl (Nat.le_of_ble_eq_true rfl)) dX12_worst_11 ?_
  refine gx_if_ne (tgt := 19) C (isin_r _ _ _) dX12_worst_14 (by decide) (fun c26 => ?_) (fun c26 => ?_)
  · have h := h.1 c26
    refine gx_bipush C dX12_worst_19 (by decide) ?_
    refine gx_istore_n C hl dX12_worst_21 (Nat.le_of_ble_eq_true rfl) (PL' := [some (.inr (some o)), some (.inl x1), some (.inl (-2)), none, none]) rfl (fun ls hl => ?_)
    refine gx_iconst C dX12_worst_22 ?_
    refine gx_istore_n C hl dX12_worst_23 (Nat.le_of_ble_eq_true rfl) (PL' := [some (.inr (some o)), some (.inl x1), some (.inl (-2)), some (.inl 0), none]) rfl (fun ls hl => ?_)
    obtain ⟨n9, h⟩ := h
    exact b24 n9 (-2) 0 S25 H locs ls (show rng (-2) by decide) (show rng 0 by decide) hl G h
  · have h := h.2 c26
    refine gx_iconst C dX12_worst_17 ?_
    exact gx_iret C G hret (show rng (-1) by decide) h dX12_worst_18
def B_X12_beside_211 (V : Vt) (o : Nat) (K159 : Int → Int → Me → Prop) (y2 : Int) (w0 : Int) (S : Me) (Q : Int → Me → Prop) : Prop := (rng (y2 + 1)) ∧ K159 w0 (y2 + 1) S
def B_X12_beside_210 (V : Vt) (o : Nat) (K159 : Int → Int → Me → Prop) (y2 : Int) (S : Me) (Q : Int → Me → Prop) : Prop := B_X12_beside_211 V o K159 y2 0 S Q
def B_X12_beside_206 (V : Vt) (o : Nat) (K159 : Int → Int → Me → Prop) (y2 : Int) (S : Me) (Q : Int → Me → Prop) : Prop := B_X12_beside_211 V o K159 y2 1 S Q
def B_X12_beside_159 (V : Vt) (o : Nat) (Q : Int → Me → Prop) : Nat → (Int → Int → Me → Prop)
  | 0 => fun _ _ _ => False
  | n + 1 => fun y1 y2 S => (((S.1 o 13) ≤ y2 → ((y1 = 0 → Q 0 S) ∧ (¬ y1 = 0 → Q 1 S))) ∧ (¬ (S.1 o 13) ≤ y2 → ((y1 = 0 → B_X12_beside_210 V o (B_X12_beside_159 V o Q n) y2 S Q) ∧ (¬ y1 = 0 → (0 ≤ y2 ∧ y2 < 400) ∧ (((S.1 (o + 4) (Int.toNat y2)) = 4 → B_X12_beside_206 V o (B_X12_beside_159 V o Q n) y2 S Q) ∧ (¬ (S.1 (o + 4) (Int.toNat y2)) = 4 → (0 ≤ y2 ∧ y2 < 400) ∧ (0 ≤ (S.1 (o + 6) (Int.toNat y2)) ∧ (S.1 (o + 6) (Int.toNat y2)) < 1024) ∧ (0 ≤ y2 ∧ y2 < 400) ∧ (0 ≤ (S.1 (o + 6) (Int.toNat y2)) ∧ (S.1 (o + 6) (Int.toNat y2)) < 1024) ∧ ((¬ (S.1 (o + 24) (Int.toNat (S.1 (o + 6) (Int.toNat y2)))) = (S.1 (o + 3) (Int.toNat (S.1 (o + 6) (Int.toNat y2)))) → B_X12_beside_210 V o (B_X12_beside_159 V o Q n) y2 S Q) ∧ ((S.1 (o + 24) (Int.toNat (S.1 (o + 6) (Int.toNat y2)))) = (S.1 (o + 3) (Int.toNat (S.1 (o + 6) (Int.toNat y2)))) → B_X12_beside_206 V o (B_X12_beside_159 V o Q n) y2 S Q))))))))
def B_X12_beside_151 (V : Vt) (o : Nat) (K31 : Int → Int → Me → Prop) (y1 : Int) (y2 : Int) (S : Me) (Q : Int → Me → Prop) : Prop := (rng (y2 + 1)) ∧ K31 y1 (y2 + 1) S
def B_X12_beside_150 (V : Vt) (o : Nat) (K31 : Int → Int → Me → Prop) (y1 : Int) (y2 : Int) (w0 : Option Nat) (w1 : Int) (w2 : Int) (S : Me) (Q : Int → Me → Prop) : Prop := ∃ z19 : Nat, w0 = some z19 ∧ V.2.1 z19 = 12 ∧ (0 ≤ w1 ∧ w1 < (V.2.2.1 z19 : Int)) ∧ ∀ S21 : Me, S21 = sI S z19 (Int.toNat w1) w2 → B_X12_beside_151 V o K31 y1 y2 S21 Q
def B_X12_beside_102 (V : Vt) (o : Nat) (K31 : Int → Int → Me → Prop) (y2 : Int) (y3 : Int) (w0 : Int) (S : Me) (Q : Int → Me → Prop) : Prop := (0 ≤ y2 ∧ y2 < 400) ∧ (0 ≤ y2 ∧ y2 < 400) ∧ ((¬ (S.1 (o + 4) (Int.toNat y2)) = 0 → (0 ≤ y2 ∧ y2 < 400) ∧ (0 ≤ y2 ∧ y2 < 400) ∧ (0 ≤ y2 ∧ y2 < 400) ∧ B_X12_beside_150 V o K31 w0 y2 (some (o + 24)) (S.1 (o + 6) (Int.toNat y2)) (bOr (bAnd y3 (bXor (S.1 (o + 8) (Int.toNat y2)) (-1))) (bAnd (S.1 (o + 7) (Int.toNat y2)) (S.1 (o + 8) (Int.toNat y2)))) S Q) ∧ ((S.1 (o + 4) (Int.toNat y2)) = 0 → B_X12_beside_150 V o K31 w0 y2 (some (o + 24)) (S.1 (o + 6) (Int.toNat y2)) y3 S Q))
def B_X12_beside_101 (V : Vt) (o : Nat) (K31 : Int → Int → Me → Prop) (y2 : Int) (y3 : Int) (S : Me) (Q : Int → Me → Prop) : Prop := B_X12_beside_102 V o K31 y2 y3 0 S Q
def B_X12_beside_97 (V : Vt) (o : Nat) (K31 : Int → Int → Me → Prop) (y2 : Int) (y3 : Int) (S : Me) (Q : Int → Me → Prop) : Prop := B_X12_beside_102 V o K31 y2 y3 1 S Q
def B_X12_beside_31 (V : Vt) (o : Nat) (Q : Int → Me → Prop) : Nat → (Int → Int → Me → Prop)
  | 0 => fun _ _ _ => False
  | n + 1 => fun y1 y2 S => (((S.1 o 13) ≤ y2 → (∃ n9 : Nat, B_X12_beside_159 V o Q n9 y1 0 S)) ∧ (¬ (S.1 o 13) ≤ y2 → PT_X12_waits V o y2 S (fun t36 S35 => ((¬ t36 = 0 → B_X12_beside_151 V o (B_X12_beside_31 V o Q n) y1 y2 S35 Q) ∧ (t36 = 0 → (0 ≤ y2 ∧ y2 < 400) ∧ ((¬ (S35.1 (o + 4) (Int.toNat y2)) = 4 → (0 ≤ y2 ∧ y2 < 400) ∧ (0 ≤ (S35.1 (o + 6) (Int.toNat y2)) ∧ (S35.1 (o + 6) (Int.toNat y2)) < 1024) ∧ ((y1 = 0 → B_X12_beside_101 V o (B_X12_beside_31 V o Q n) y2 (S35.1 (o + 24) (Int.toNat (S35.1 (o + 6) (Int.toNat y2)))) S35 Q) ∧ (¬ y1 = 0 → (0 ≤ y2 ∧ y2 < 400) ∧ (((S35.1 (o + 11) (Int.toNat y2)) = (-2) → B_X12_beside_97 V o (B_X12_beside_31 V o Q n) y2 (S35.1 (o + 24) (Int.toNat (S35.1 (o + 6) (Int.toNat y2)))) S35 Q) ∧ (¬ (S35.1 (o + 11) (Int.toNat y2)) = (-2) → (0 ≤ y2 ∧ y2 < 400) ∧ ((¬ (S35.1 (o + 11) (Int.toNat y2)) = (S35.1 (o + 24) (Int.toNat (S35.1 (o + 6) (Int.toNat y2)))) → B_X12_beside_101 V o (B_X12_beside_31 V o Q n) y2 (S35.1 (o + 24) (Int.toNat (S35.1 (o + 6) (Int.toNat y2)))) S35 Q) ∧ ((S35.1 (o + 11) (Int.toNat y2)) = (S35.1 (o + 24) (Int.toNat (S35.1 (o + 6) (Int.toNat y2)))) → B_X12_beside_97 V o (B_X12_beside_31 V o Q n) y2 (S35.1 (o + 24) (Int.toNat (S35.1 (o + 6) (Int.toNat y2)))) S35 Q))))))) ∧ ((S35.1 (o + 4) (Int.toNat y2)) = 4 → B_X12_beside_151 V o (B_X12_beside_31 V o Q n) y1 y2 S35 Q)))))))
def B_X12_beside_9 (V : Vt) (o : Nat) (Q : Int → Me → Prop) : Nat → (Int → Int → Me → Prop)
  | 0 => fun _ _ _ => False
  | n + 1 => fun y1 y2 S => ((1024 ≤ y2 → (∃ n9 : Nat, B_X12_beside_31 V o Q n9 y1 0 S)) ∧ (¬ 1024 ≤ y2 → (0 ≤ y2 ∧ y2 < 1024) ∧ ∀ S54 : Me, S54 = sI S (o + 24) (Int.toNat y2) 0 → (rng (y2 + 1)) ∧ B_X12_beside_9 V o Q n y1 (y2 + 1) S54))
def PT_X12_beside (V : Vt) (o : Nat) (S : Me) (Q : Int → Me → Prop) : Prop := ∀ S56 : Me, S56 = sI S o 0 0 → (∃ n9 : Nat, B_X12_beside_9 V o Q n9 1 0 S56)
theorem hd_X12_beside : yX12_beside.cls ≠ "java/lang/invoke/MethodHandle" ∧ yX12_beside.cls ≠ "java/lang/invoke/VarHandle" ∧ (parseMethodDescriptor yX12_beside.desc).map (fun d => d.parameters.length) = some 0 := by decide +kernel
set_option maxHeartbeats 4000000 in
set_option maxRecDepth 100000 in
theorem c_X12_beside (l : Launch) (D : va_G) (cy : ClassId × ClassId × ClassId × ClassId) (ad : Nat → Nat) {V : Vt} {S : Me} {o : Nat} (hV : fX12 V o) {Q : Int → Me → Prop} (h : PT_X12_beside V o S Q) : KM l D cy yX12_beside cX12_beside 4 (Option.some Jvm.ClassFile.FieldType.int) 1 21 ad V S [.inr (some o)] (qI Q) := by
  refine KM.of (by decide) rfl (Nat.le_of_ble_eq_true rfl) (own := RX12) (fun p e s m args below meth c A ls H locs eA C hret hml hmn hl G => ?_)
  have hl : lo ad ls [some (.inr (some o)), none, none, none] := hl
  have b211 : ∀ (K159 : Int → Int → Me → Prop) (hK159 : ∀ (y1 : Int) (y2 : Int) (S : Me) (H : Heap) (locs : List Loc) (ls : Array Slot), rng y1 → rng y2 → lo ad ls [some (.inr (some o)), some (.inl y1), some (.inl y2), none] → Gy D cy A s.heap ad V S H locs → K159 y1 y2 S → W p l e (rmx 1 21) s m args below meth c H locs 0 0 (qm below D cy ad V A args s (qI Q)) (F0 m 159 ls [])) (y2 : Int) (w0 : Int) (S : Me) (H : Heap) (locs : List Loc) (ls : Array Slot), rng y2 → rng w0 → lo ad ls [some (.inr (some o)), none, some (.inl y2), none] → Gy D cy A s.heap ad V S H locs → B_X12_beside_211 V o K159 y2 w0 S Q → W p l e (rmx 1 21) s m args below meth c H locs 0 0 (qm below D cy ad V A args s (qI Q)) (F0 m 211 ls [vI w0]) := by
    intro K159 hK159 y2 w0 S H locs ls ry2 rw0 hl G h
    unfold B_X12_beside_211 at h
    refine gx_istore_n C hl dX12_beside_211 (Nat.le_of_ble_eq_true rfl) (PL' := [some (.inr (some o)), some (.inl w0), some (.inl y2), none]) rfl (fun ls hl => ?_)
    obtain ⟨h1, h⟩ := h
    refine gx_iinc C hl dX12_beside_212 rfl (PL' := [some (.inr (some o)), some (.inl w0), some (.inl (y2 + 1)), none]) rfl (fun ls hl => ?_)
    refine gx_goto (tgt := 159) C dX12_beside_215 (by decide) ?_
    exact hK159 w0 (y2 + 1) S H locs ls rw0 h1 hl G h
  have b210 : ∀ (K159 : Int → Int → Me → Prop) (hK159 : ∀ (y1 : Int) (y2 : Int) (S : Me) (H : Heap) (locs : List Loc) (ls : Array Slot), rng y1 → rng y2 → lo ad ls [some (.inr (some o)), some (.inl y1), some (.inl y2), none] → Gy D cy A s.heap ad V S H locs → K159 y1 y2 S → W p l e (rmx 1 21) s m args below meth c H locs 0 0 (qm below D cy ad V A args s (qI Q)) (F0 m 159 ls [])) (y2 : Int) (S : Me) (H : Heap) (locs : List Loc) (ls : Array Slot), rng y2 → lo ad ls [some (.inr (some o)), none, some (.inl y2), none] → Gy D cy A s.heap ad V S H locs → B_X12_beside_210 V o K159 y2 S Q → W p l e (rmx 1 21) s m args below meth c H locs 0 0 (qm below D cy ad V A args s (qI Q)) (F0 m 210 ls []) := by
    intro K159 hK159 y2 S H locs ls ry2 hl G h
    unfold B_X12_beside_210 at h
    refine gx_iconst C dX12_beside_210 ?_
    exact b211 K159 hK159 y2 0 S H locs ls ry2 (show rng 0 by decide) hl G h
  have b206 : ∀ (K159 : Int → Int → Me → Prop) (hK159 : ∀ (y1 : Int) (y2 : Int) (S : Me) (H : Heap) (locs : List Loc) (ls : Array Slot), rng y1 → rng y2 → lo ad ls [some (.inr (some o)), some (.inl y1), some (.inl y2), none] → Gy D cy A s.heap ad V S H locs → K159 y1 y2 S → W p l e (rmx 1 21) s m args below meth c H locs 0 0 (qm below D cy ad V A args s (qI Q)) (F0 m 159 ls [])) (y2 : Int) (S : Me) (H : Heap) (locs : List Loc) (ls : Array Slot), rng y2 → lo ad ls [some (.inr (some o)), none, some (.inl y2), none] → Gy D cy A s.heap ad V S H locs → B_X12_beside_206 V o K159 y2 S Q → W p l e (rmx 1 21) s m args below meth c H locs 0 0 (qm below D cy ad V A args s (qI Q)) (F0 m 206 ls []) := by
    intro K159 hK159 y2 S H locs ls ry2 hl G h
    unfold B_X12_beside_206 at h
    refine gx_iconst C dX12_beside_206 ?_
    refine gx_goto (tgt := 211) C dX12_beside_207 (by decide) ?_
    exact b211 K159 hK159 y2 1 S H locs ls ry2 (show rng 1 by decide) hl G h
  have b159 : ∀ (n : Nat) (y1 : Int) (y2 : Int) (S : Me) (H : Heap) (locs : List Loc) (ls : Array Slot), rng y1 → rng y2 → lo ad ls [some (.inr (some o)), some (.inl y1), some (.inl y2), none] → Gy D cy A s.heap ad V S H locs → B_X12_beside_159 V o Q n y1 y2 S → W p l e (rmx 1 21) s m args below meth c H locs 0 0 (qm below D cy ad V A args s (qI Q)) (F0 m 159 ls []) := by
    intro n
    induction n with
    | zero =>
      intro y1 y2 S H locs ls ry1 ry2 hl G h
      exact absurd h id
    | succ n ih =>
      intro y1 y2 S H locs ls ry1 ry2 hl G h
      rw [B_X12_beside_159] at h
      refine gx_iload_n C hl dX12_beside_159 rfl ?_
      refine gx_aload_n C hl dX12_beside_160 rfl ?_
      refine gx_getI C G rfl (fX12_o hV) (fo11_13 (fX12_c hV)) uw_968 (fun _ h9 => h9) dX12_beside_161 ?_
      have r2 := G.r o 13
      refine gx_icmp_ge (tgt := 218) C ry2 r2 dX12_beside_164 (by decide) (fun c3 => ?_) (fun c3 => ?_)
      · have h := h.1 c3
        refine gx_iload_n C hl dX12_beside_218 rfl ?_
        refine gx_if_eq (tgt := 226) C ry1 dX12_beside_219 (by decide) (fun c4 => ?_) (fun c4 => ?_)
        · have h := h.1 c4
          refine gx_iconst C dX12_beside_226 ?_
          exact gx_iret C G hret (show rng 0 by decide) h dX12_beside_227
        · have h := h.2 c4
          refine gx_iconst C dX12_beside_222 ?_
          refine gx_goto (tgt := 227) C dX12_beside_223 (by decide) ?_
          exact gx_iret C G hret (show rng 1 by decide) h dX12_beside_227
      · have h := h.2 c3
        refine gx_iload_n C hl dX12_beside_167 rfl ?_
        refine gx_if_eq (tgt := 210) C ry1 dX12_beside_168 (by decide) (fun c5 => ?_) (fun c5 => ?_)
        · have h := h.1 c5
          exact b210 (B_X12_beside_159 V o Q n) ih y2 S H locs ls ry2 (lo_mask (bs := [true, false, true, false]) hl rfl rfl) G h
        · have h := h.2 c5
          refine gx_aload_n C hl dX12_beside_171 rfl ?_
          refine gx_getF C G rfl (fX12_o hV) (fo11_15 (fX12_c hV)) (fX12_kind hV) uw_970 (fun _ h9 => h9) dX12_beside_172 ?_
          refine gx_iload_n C hl dX12_beside_175 rfl ?_
          obtain ⟨h6, h⟩ := h
          refine gx_iald C G rfl (fX12_kind_l hV) (fX12_kind_t hV) ry2 h6.1 (ixl (fX12_kind_n hV) h6.2) dX12_beside_176 ?_
          have r7 := G.r (o + 4) (Int.toNat y2)
          refine gx_iconst C dX12_beside_177 ?_
          refine gx_icmp_eq (tgt := 206) C r7 (show rng 4 by decide) dX12_beside_178 (by decide) (fun c8 => ?_) (fun c8 => ?_)
          · have h := h.1 c8
            exact b206 (B_X12_beside_159 V o Q n) ih y2 S H locs ls ry2 (lo_mask (bs := [true, false, true, false]) hl rfl rfl) G h
          · have h := h.2 c8
            refine gx_aload_n C hl dX12_beside_181 rfl ?_
            refine gx_getF C G rfl (fX12_o hV) (fo11_44 (fX12_c hV)) (fX12_plain hV) uw_999 (fun _ h9 => h9) dX12_beside_182 ?_
            refine gx_aload_n C hl dX12_beside_185 rfl ?_
            refine gx_getF C G rfl (fX12_o hV) (fo11_17 (fX12_c hV)) (fX12_address hV) uw_972 (fun _ h9 => h9) dX12_beside_186 ?_
            refine gx_iload_n C hl dX12_beside_189 rfl ?_
            obtain ⟨h9, h⟩ := h
            refine gx_iald C G rfl (fX12_address_l hV) (fX12_address_t hV) ry2 h9.1 (ixl (fX12_address_n hV) h9.2) dX12_beside_190 ?_
            have r10 := G.r (o + 6) (Int.toNat y2)
            obtain ⟨h11, h⟩ := h
            refine gx_iald C G rfl (fX12_plain_l hV) (fX12_plain_t hV) r10 h11.1 (ixl (fX12_plain_n hV) h11.2) dX12_beside_191 ?_
            have r12 := G.r (o + 24) (Int.toNat (S.1 (o + 6) (Int.toNat y2)))
            refine gx_aload_n C hl dX12_beside_192 rfl ?_
            refine gx_getF C G rfl (fX12_o hV) (fo11_12 (fX12_c hV)) (fX12_memory hV) uw_967 (fun _ h9 => h9) dX12_beside_193 ?_
            refine gx_aload_n C hl dX12_beside_196 rfl ?_
            refine gx_getF C G rfl (fX12_o hV) (fo11_17 (fX12_c hV)) (fX12_address hV) uw_972 (fun _ h9 => h9) dX12_beside_197 ?_
            refine gx_iload_n C hl dX12_beside_200 rfl ?_
            obtain ⟨h13, h⟩ := h
            refine gx_iald C G rfl (fX12_address_l hV) (fX12_address_t hV) ry2 h13.1 (ixl (fX12_address_n hV) h13.2) dX12_beside_201 ?_
            have r14 := G.r (o + 6) (Int.toNat y2)
            obtain ⟨h15, h⟩ := h
            refine gx_iald C G rfl (fX12_memory_l hV) (fX12_memory_t hV) r14 h15.1 (ixl (fX12_memory_n hV) h15.2) dX12_beside_202 ?_
            have r16 := G.r (o + 3) (Int.toNat (S.1 (o + 6) (Int.toNat y2)))
            refine gx_icmp_ne (tgt := 210) C r12 r16 dX12_beside_203 (by decide) (fun c17 => ?_) (fun c17 => ?_)
            · have h := h.1 c17
              exact b210 (B_X12_beside_159 V o Q n) ih y2 S H locs ls ry2 (lo_mask (bs := [true, false, true, false]) hl rfl rfl) G h
            · have h := h.2 c17
              exact b206 (B_X12_beside_159 V o Q n) ih y2 S H locs ls ry2 (lo_mask (bs := [true, false, true, false]) hl rfl rfl) G h
  have b151 : ∀ (K31 : Int → Int → Me → Prop) (hK31 : ∀ (y1 : Int) (y2 : Int) (S : Me) (H : Heap) (locs : List Loc) (ls : Array Slot), rng y1 → rng y2 → lo ad ls [some (.inr (some o)), some (.inl y1), some (.inl y2), none] → Gy D cy A s.heap ad V S H locs → K31 y1 y2 S → W p l e (rmx 1 21) s m args below meth c H locs 0 0 (qm below D cy ad V A args s (qI Q)) (F0 m 31 ls [])) (y1 : Int) (y2 : Int) (S : Me) (H : Heap) (locs : List Loc) (ls : Array Slot), rng y1 → rng y2 → lo ad ls [some (.inr (some o)), some (.inl y1), some (.inl y2), none] → Gy D cy A s.heap ad V S H locs → B_X12_beside_151 V o K31 y1 y2 S Q → W p l e (rmx 1 21) s m args below meth c H locs 0 0 (qm below D cy ad V A args s (qI Q)) (F0 m 151 ls []) := by
    intro K31 hK31 y1 y2 S H locs ls ry1 ry2 hl G h
    unfold B_X12_beside_151 at h
    obtain ⟨h18, h⟩ := h
    refine gx_iinc C hl dX12_beside_151 rfl (PL' := [some (.inr (some o)), some (.inl y1), some (.inl (y2 + 1)), none]) rfl (fun ls hl => ?_)
    refine gx_goto (tgt := 31) C dX12_beside_154 (by decide) ?_
    exact hK31 y1 (y2 + 1) S H locs ls ry1 h18 hl G h
  have b150 : ∀ (K31 : Int → Int → Me → Prop) (hK31 : ∀ (y1 : Int) (y2 : Int) (S : Me) (H : Heap) (locs : List Loc) (ls : Array Slot), rng y1 → rng y2 → lo ad ls [some (.inr (some o)), some (.inl y1), some (.inl y2), none] → Gy D cy A s.heap ad V S H locs → K31 y1 y2 S → W p l e (rmx 1 21) s m args below meth c H locs 0 0 (qm below D cy ad V A args s (qI Q)) (F0 m 31 ls [])) (y1 : Int) (y2 : Int) (w0 : Option Nat) (w1 : Int) (w2 : Int) (S : Me) (H : Heap) (locs : List Loc) (ls : Array Slot), rng y1 → rng y2 → (∀ z, w0 = some z → z < V.1) → rng w1 → rng w2 → lo ad ls [some (.inr (some o)), some (.inl y1), some (.inl y2), none] → Gy D cy A s.heap ad V S H locs → B_X12_beside_150 V o K31 y1 y2 w0 w1 w2 S Q → W p l e (rmx 1 21) s m args below meth c H locs 0 0 (qm below D cy ad V A args s (qI Q)) (F0 m 150 ls [vI w2, vI w1, vR ad w0]) := by
    intro K31 hK31 y1 y2 w0 w1 w2 S H locs ls ry1 ry2 vw0 rw1 rw2 hl G h
    unfold B_X12_beside_150 at h
    obtain ⟨z19, hz19, tz19, h⟩ := h
    have lz19 := (vw0 z19 hz19)
    obtain ⟨h20, h⟩ := h
    refine gx_iast C G hz19 lz19 tz19 rw1 rw2 h20.1 h20.2 dX12_beside_150 (fun H locs G => ?_)
    obtain ⟨S21, eS21⟩ : ∃ q9 : Me, q9 = sI S z19 (Int.toNat w1) w2 := ⟨_, rfl⟩
    have h := h S21 eS21
    rw [← eS21] at G
    exact b151 K31 hK31 y1 y2 S21 H locs ls ry1 ry2 hl G h
  have b102 : ∀ (K31 : Int → Int → Me → Prop) (hK31 : ∀ (y1 : Int) (y2 : Int) (S : Me) (H : Heap) (locs : List Loc) (ls : Array Slot), rng y1 → rng y2 → lo ad ls [some (.inr (some o)), some (.inl y1), some (.inl y2), none] → Gy D cy A s.heap ad V S H locs → K31 y1 y2 S → W p l e (rmx 1 21) s m args below meth c H locs 0 0 (qm below D cy ad V A args s (qI Q)) (F0 m 31 ls [])) (y2 : Int) (y3 : Int) (w0 : Int) (S : Me) (H : Heap) (locs : List Loc) (ls : Array Slot), rng y2 → rng y3 → rng w0 → lo ad ls [some (.inr (some o)), none, some (.inl y2), some (.inl y3)] → Gy D cy A s.heap ad V S H locs → B_X12_beside_102 V o K31 y2 y3 w0 S Q → W p l e (rmx 1 21) s m args below meth c H locs 0 0 (qm below D cy ad V A args s (qI Q)) (F0 m 102 ls [vI w0]) := by
    intro K31 hK31 y2 y3 w0 S H locs ls ry2 ry3 rw0 hl G h
    unfold B_X12_beside_102 at h
    refine gx_istore_n C hl dX12_beside_102 (Nat.le_of_ble_eq_true rfl) (PL' := [some (.inr (some o)), some (.inl w0), some (.inl y2), some (.inl y3)]) rfl (fun ls hl => ?_)
    refine gx_aload_n C hl dX12_beside_103 rfl ?_
    refine gx_getF C G rfl (fX12_o hV) (fo11_44 (fX12_c hV)) (fX12_plain hV) uw_999 (fun _ h9 => h9) dX12_beside_104 ?_
    refine gx_aload_n C hl dX12_beside_107 rfl ?_
    refine gx_getF C G rfl (fX12_o hV) (fo11_17 (fX12_c hV)) (fX12_address hV) uw_972 (fun _ h9 => h9) dX12_beside_108 ?_
    refine gx_iload_n C hl dX12_beside_111 rfl ?_
    obtain ⟨h22, h⟩ := h
    refine gx_iald C G rfl (fX12_address_l hV) (fX12_address_t hV) ry2 h22.1 (ixl (fX12_address_n hV) h22.2) dX12_beside_112 ?_
    have r23 := G.r (o + 6) (Int.toNat y2)
    refine gx_aload_n C hl dX12_beside_113 rfl ?_
    refine gx_getF C G rfl (fX12_o hV) (fo11_15 (fX12_c hV)) (fX12_kind hV) uw_970 (fun _ h9 => h9) dX12_beside_114 ?_
    refine gx_iload_n C hl dX12_beside_117 rfl ?_
    obtain ⟨h24, h⟩ := h
    refine gx_iald C G rfl (fX12_kind_l hV) (fX12_kind_t hV) ry2 h24.1 (ixl (fX12_kind_n hV) h24.2) dX12_beside_118 ?_
    have r25 := G.r (o + 4) (Int.toNat y2)
    refine gx_if_ne (tgt := 126) C r25 dX12_beside_119 (by decide) (fun c26 => ?_) (fun c26 => ?_)
    · have h := h.1 c26
      refine gx_iload_n C hl dX12_beside_126 rfl ?_
      refine gx_aload_n C hl dX12_beside_127 rfl ?_
      refine gx_getF C G rfl (fX12_o hV) (fo11_19 (fX12_c hV)) (fX12_bits hV) uw_974 (fun _ h9 => h9) dX12_beside_128 ?_
      refine gx_iload_n C hl dX12_beside_131 rfl ?_
      obtain ⟨h27, h⟩ := h
      refine gx_iald C G rfl (fX12_bits_l hV) (fX12_bits_t hV) ry2 h27.1 (ixl (fX12_bits_n hV) h27.2) dX12_beside_132 ?_
      have r28 := G.r (o + 8) (Int.toNat y2)
      refine gx_iconst C dX12_beside_133 ?_
      refine gx_ixor C dX12_beside_134 ?_
      refine gx_iand C dX12_beside_135 ?_
      refine gx_aload_n C hl dX12_beside_136 rfl ?_
      refine gx_getF C G rfl (fX12_o hV) (fo11_18 (fX12_c hV)) (fX12_value hV) uw_973 (fun _ h9 => h9) dX12_beside_137 ?_
      refine gx_iload_n C hl dX12_beside_140 rfl ?_
      obtain ⟨h29, h⟩ := h
      refine gx_iald C G rfl (fX12_value_l hV) (fX12_value_t hV) ry2 h29.1 (ixl (fX12_value_n hV) h29.2) dX12_beside_141 ?_
      have r30 := G.r (o + 7) (Int.toNat y2)
      refine gx_aload_n C hl dX12_beside_142 rfl ?_
      refine gx_getF C G rfl (fX12_o hV) (fo11_19 (fX12_c hV)) (fX12_bits hV) uw_974 (fun _ h9 => h9) dX12_beside_143 ?_
      refine gx_iload_n C hl dX12_beside_146 rfl ?_
      obtain ⟨h31, h⟩ := h
      refine gx_iald C G rfl (fX12_bits_l hV) (fX12_bits_t hV) ry2 h31.1 (ixl (fX12_bits_n hV) h31.2) dX12_beside_147 ?_
      have r32 := G.r (o + 8) (Int.toNat y2)
      refine gx_iand C dX12_beside_148 ?_
      refine gx_ior C dX12_beside_149 ?_
      exact b150 K31 hK31 w0 y2 (some (o + 24)) (S.1 (o + 6) (Int.toNat y2)) (bOr (bAnd y3 (bXor (S.1 (o + 8) (Int.toNat y2)) (-1))) (bAnd (S.1 (o + 7) (Int.toNat y2)) (S.1 (o + 8) (Int.toNat y2)))) S H locs ls rw0 ry2 (vsome (fX12_plain_l hV)) r23 (rg_o _) (lo_mask (bs := [true, true, true, false]) hl rfl rfl) G h
    · have h := h.2 c26
      refine gx_iload_n C hl dX12_beside_122 rfl ?_
      refine gx_goto (tgt := 150) C dX12_beside_123 (by decide) ?_
      exact b150 K31 hK31 w0 y2 (some (o + 24)) (S.1 (o + 6) (Int.toNat y2)) y3 S H locs ls rw0 ry2 (vsome (fX12_plain_l hV)) r23 ry3 (lo_mask (bs := [true, true, true, false]) hl rfl rfl) G h
  have b101 : ∀ (K31 : Int → Int → Me → Prop) (hK31 : ∀ (y1 : Int) (y2 : Int) (S : Me) (H : Heap) (locs : List Loc) (ls : Array Slot), rng y1 → rng y2 → lo ad ls [some (.inr (some o)), some (.inl y1), some (.inl y2), none] → Gy D cy A s.heap ad V S H locs → K31 y1 y2 S → W p l e (rmx 1 21) s m args below meth c H locs 0 0 (qm below D cy ad V A args s (qI Q)) (F0 m 31 ls [])) (y2 : Int) (y3 : Int) (S : Me) (H : Heap) (locs : List Loc) (ls : Array Slot), rng y2 → rng y3 → lo ad ls [some (.inr (some o)), none, some (.inl y2), some (.inl y3)] → Gy D cy A s.heap ad V S H locs → B_X12_beside_101 V o K31 y2 y3 S Q → W p l e (rmx 1 21) s m args below meth c H locs 0 0 (qm below D cy ad V A args s (qI Q)) (F0 m 101 ls []) := by
    intro K31 hK31 y2 y3 S H locs ls ry2 ry3 hl G h
    unfold B_X12_beside_101 at h
    refine gx_iconst C dX12_beside_101 ?_
    exact b102 K31 hK31 y2 y3 0 S H locs ls ry2 ry3 (show rng 0 by decide) hl G h
  have b97 : ∀ (K31 : Int → Int → Me → Prop) (hK31 : ∀ (y1 : Int) (y2 : Int) (S : Me) (H : Heap) (locs : List Loc) (ls : Array Slot), rng y1 → rng y2 → lo ad ls [some (.inr (some o)), some (.inl y1), some (.inl y2), none] → Gy D cy A s.heap ad V S H locs → K31 y1 y2 S → W p l e (rmx 1 21) s m args below meth c H locs 0 0 (qm below D cy ad V A args s (qI Q)) (F0 m 31 ls [])) (y2 : Int) (y3 : Int) (S : Me) (H : Heap) (locs : List Loc) (ls : Array Slot), rng y2 → rng y3 → lo ad ls [some (.inr (some o)), none, some (.inl y2), some (.inl y3)] → Gy D cy A s.heap ad V S H locs → B_X12_beside_97 V o K31 y2 y3 S Q → W p l e (rmx 1 21) s m args below meth c H locs 0 0 (qm below D cy ad V A args s (qI Q)) (F0 m 97 ls []) := by
    intro K31 hK31 y2 y3 S H locs ls ry2 ry3 hl G h
    unfold B_X12_beside_97 at h
    refine gx_iconst C dX12_beside_97 ?_
    refine gx_goto (tgt := 102) C dX12_beside_98 (by decide) ?_
    exact b102 K31 hK31 y2 y3 1 S H locs ls ry2 ry3 (show rng 1 by decide) hl G h
  have b31 : ∀ (n : Nat) (y1 : Int) (y2 : Int) (S : Me) (H : Heap) (locs : List Loc) (ls : Array Slot), rng y1 → rng y2 → lo ad ls [some (.inr (some o)), some (.inl y1), some (.inl y2), none] → Gy D cy A s.heap ad V S H locs → B_X12_beside_31 V o Q n y1 y2 S → W p l e (rmx 1 21) s m args below meth c H locs 0 0 (qm below D cy ad V A args s (qI Q)) (F0 m 31 ls []) := by
    intro n
    induction n with
    | zero =>
      intro y1 y2 S H locs ls ry1 ry2 hl G h
      exact absurd h id
    | succ n ih =>
      intro y1 y2 S H locs ls ry1 ry2 hl G h
      rw [B_X12_beside_31] at h
      refine gx_iload_n C hl dX12_beside_31 rfl ?_
      refine gx_aload_n C hl dX12_beside_32 rfl ?_
      refine gx_getI C G rfl (fX12_o hV) (fo11_13 (fX12_c hV)) uw_968 (fun _ h9 => h9) dX12_beside_33 ?_
      have r33 := G.r o 13
      refine gx_icmp_ge (tgt := 157) C ry2 r33 dX12_beside_36 (by decide) (fun c34 => ?_) (fun c34 => ?_)
      · have h := h.1 c34
        refine gx_iconst C dX12_beside_157 ?_
        refine gx_istore_n C hl dX12_beside_158 (Nat.le_of_ble_eq_true rfl) (PL' := [some (.inr (some o)), some (.inl y1), some (.inl 0), none]) rfl (fun ls hl => ?_)
        obtain ⟨n9, h⟩ := h
        exact b159 n9 y1 0 S H locs ls ry1 (show rng 0 by decide) hl G h
      · have h := h.2 c34
        refine gx_aload_n C hl dX12_beside_39 rfl ?_
        refine gx_iload_n C hl dX12_beside_40 rfl ?_
        refine gx_callV C G hl hml (c_X12_waits l D cy ad hV ry2 h) rfl (fX12_o hV) (by rw [(fX12_c hV)]; rfl) (by rw [(fX12_c hV)]; decide) rfl uw_1181 uw_1178 uw_1180 up_20 uw_9 hd_X12_waits ⟨Nat.le_of_ble_eq_true rfl, Nat.le_of_ble_eq_true rfl⟩ ⟨Nat.zero_le _, Nat.zero_le _⟩ rfl rfl (hw_le ad [] rfl (Nat.le_of_ble_eq_true rfl)) dX12_beside_41 (kkI (fun t36 S35 H locs rt36 h G => ?_))
        refine gx_if_ne (tgt := 151) C rt36 dX12_beside_44 (by decide) (fun c37 => ?_) (fun c37 => ?_)
        · have h := h.1 c37
          exact b151 (B_X12_beside_31 V o Q n) ih y1 y2 S35 H locs ls ry1 ry2 hl G h
        · have h := h.2 c37
          refine gx_aload_n C hl dX12_beside_47 rfl ?_
          refine gx_getF C G rfl (fX12_o hV) (fo11_15 (fX12_c hV)) (fX12_kind hV) uw_970 (fun _ h9 => h9) dX12_beside_48 ?_
          refine gx_iload_n C hl dX12_beside_51 rfl ?_
          obtain ⟨h38, h⟩ := h
          refine gx_iald C G rfl (fX12_kind_l hV) (fX12_kind_t hV) ry2 h38.1 (ixl (fX12_kind_n hV) h38.2) dX12_beside_52 ?_
          have r39 := G.r (o + 4) (Int.toNat y2)
          refine gx_iconst C dX12_beside_53 ?_
          refine gx_icmp_ne (tgt := 60) C r39 (show rng 4 by decide) dX12_beside_54 (by decide) (fun c40 => ?_) (fun c40 => ?_)
          · have h := h.1 c40
            refine gx_aload_n C hl dX12_beside_60 rfl ?_
            refine gx_getF C G rfl (fX12_o hV) (fo11_44 (fX12_c hV)) (fX12_plain hV) uw_999 (fun _ h9 => h9) dX12_beside_61 ?_
            refine gx_aload_n C hl dX12_beside_64 rfl ?_
            refine gx_getF C G rfl (fX12_o hV) (fo11_17 (fX12_c hV)) (fX12_address hV) uw_972 (fun _ h9 => h9) dX12_beside_65 ?_
            refine gx_iload_n C hl dX12_beside_68 rfl ?_
            obtain ⟨h41, h⟩ := h
            refine gx_iald C G rfl (fX12_address_l hV) (fX12_address_t hV) ry2 h41.1 (ixl (fX12_address_n hV) h41.2) dX12_beside_69 ?_
            have r42 := G.r (o + 6) (Int.toNat y2)
            obtain ⟨h43, h⟩ := h
            refine gx_iald C G rfl (fX12_plain_l hV) (fX12_plain_t hV) r42 h43.1 (ixl (fX12_plain_n hV) h43.2) dX12_beside_70 ?_
            have r44 := G.r (o + 24) (Int.toNat (S35.1 (o + 6) (Int.toNat y2)))
            refine gx_istore_n C hl dX12_beside_71 (Nat.le_of_ble_eq_true rfl) (PL' := [some (.inr (some o)), some (.inl y1), some (.inl y2), some (.inl (S35.1 (o + 24) (Int.toNat (S35.1 (o + 6) (Int.toNat y2)))))]) rfl (fun ls hl => ?_)
            refine gx_iload_n C hl dX12_beside_72 rfl ?_
            refine gx_if_eq (tgt := 101) C ry1 dX12_beside_73 (by decide) (fun c45 => ?_) (fun c45 => ?_)
            · have h := h.1 c45
              exact b101 (B_X12_beside_31 V o Q n) ih y2 (S35.1 (o + 24) (Int.toNat (S35.1 (o + 6) (Int.toNat y2)))) S35 H locs ls ry2 r44 (lo_mask (bs := [true, false, true, true]) hl rfl rfl) G h
            · have h := h.2 c45
              refine gx_aload_n C hl dX12_beside_76 rfl ?_
              refine gx_getF C G rfl (fX12_o hV) (fo11_22 (fX12_c hV)) (fX12_answer hV) uw_977 (fun _ h9 => h9) dX12_beside_77 ?_
              refine gx_iload_n C hl dX12_beside_80 rfl ?_
              obtain ⟨h46, h⟩ := h
              refine gx_iald C G rfl (fX12_answer_l hV) (fX12_answer_t hV) ry2 h46.1 (ixl (fX12_answer_n hV) h46.2) dX12_beside_81 ?_
              have r47 := G.r (o + 11) (Int.toNat y2)
              refine gx_bipush C dX12_beside_82 (by decide) ?_
              refine gx_icmp_eq (tgt := 97) C r47 (show rng (-2) by decide) dX12_beside_84 (by decide) (fun c48 => ?_) (fun c48 => ?_)
              · have h := h.1 c48
                exact b97 (B_X12_beside_31 V o Q n) ih y2 (S35.1 (o + 24) (Int.toNat (S35.1 (o + 6) (Int.toNat y2)))) S35 H locs ls ry2 r44 (lo_mask (bs := [true, false, true, true]) hl rfl rfl) G h
              · have h := h.2 c48
                refine gx_aload_n C hl dX12_beside_87 rfl ?_
                refine gx_getF C G rfl (fX12_o hV) (fo11_22 (fX12_c hV)) (fX12_answer hV) uw_977 (fun _ h9 => h9) dX12_beside_88 ?_
                refine gx_iload_n C hl dX12_beside_91 rfl ?_
                obtain ⟨h49, h⟩ := h
                refine gx_iald C G rfl (fX12_answer_l hV) (fX12_answer_t hV) ry2 h49.1 (ixl (fX12_answer_n hV) h49.2) dX12_beside_92 ?_
                have r50 := G.r (o + 11) (Int.toNat y2)
                refine gx_iload_n C hl dX12_beside_93 rfl ?_
                refine gx_icmp_ne (tgt := 101) C r50 r44 dX12_beside_94 (by decide) (fun c51 => ?_) (fun c51 => ?_)
                · have h := h.1 c51
                  exact b101 (B_X12_beside_31 V o Q n) ih y2 (S35.1 (o + 24) (Int.toNat (S35.1 (o + 6) (Int.toNat y2)))) S35 H locs ls ry2 r44 (lo_mask (bs := [true, false, true, true]) hl rfl rfl) G h
                · have h := h.2 c51
                  exact b97 (B_X12_beside_31 V o Q n) ih y2 (S35.1 (o + 24) (Int.toNat (S35.1 (o + 6) (Int.toNat y2)))) S35 H locs ls ry2 r44 (lo_mask (bs := [true, false, true, true]) hl rfl rfl) G h
          · have h := h.2 c40
            refine gx_goto (tgt := 151) C dX12_beside_57 (by decide) ?_
            exact b151 (B_X12_beside_31 V o Q n) ih y1 y2 S35 H locs ls ry1 ry2 hl G h
  have b9 : ∀ (n : Nat) (y1 : Int) (y2 : Int) (S : Me) (H : Heap) (locs : List Loc) (ls : Array Slot), rng y1 → rng y2 → lo ad ls [some (.inr (some o)), some (.inl y1), some (.inl y2), none] → Gy D cy A s.heap ad V S H locs → B_X12_beside_9 V o Q n y1 y2 S → W p l e (rmx 1 21) s m args below meth c H locs 0 0 (qm below D cy ad V A args s (qI Q)) (F0 m 9 ls []) := by
    intro n
    induction n with
    | zero =>
      intro y1 y2 S H locs ls ry1 ry2 hl G h
      exact absurd h id
    | succ n ih =>
      intro y1 y2 S H locs ls ry1 ry2 hl G h
      rw [B_X12_beside_9] at h
      refine gx_iload_n C hl dX12_beside_9 rfl ?_
      refine gx_sipush C dX12_beside_10 (by decide) ?_
      refine gx_icmp_ge (tgt := 29) C ry2 (show rng 1024 by decide) dX12_beside_13 (by decide) (fun c52 => ?_) (fun c52 => ?_)
      · have h := h.1 c52
        refine gx_iconst C dX12_beside_29 ?_
        refine gx_istore_n C hl dX12_beside_30 (Nat.le_of_ble_eq_true rfl) (PL' := [some (.inr (some o)), some (.inl y1), some (.inl 0), none]) rfl (fun ls hl => ?_)
        obtain ⟨n9, h⟩ := h
        exact b31 n9 y1 0 S H locs ls ry1 (show rng 0 by decide) hl G h
      · have h := h.2 c52
        refine gx_aload_n C hl dX12_beside_16 rfl ?_
        refine gx_getF C G rfl (fX12_o hV) (fo11_44 (fX12_c hV)) (fX12_plain hV) uw_999 (fun _ h9 => h9) dX12_beside_17 ?_
        refine gx_iload_n C hl dX12_beside_20 rfl ?_
        refine gx_iconst C dX12_beside_21 ?_
        obtain ⟨h53, h⟩ := h
        refine gx_iast C G rfl (fX12_plain_l hV) (fX12_plain_t hV) ry2 (show rng 0 by decide) h53.1 (ixl (fX12_plain_n hV) h53.2) dX12_beside_22 (fun H locs G => ?_)
        obtain ⟨S54, eS54⟩ : ∃ q9 : Me, q9 = sI S (o + 24) (Int.toNat y2) 0 := ⟨_, rfl⟩
        have h := h S54 eS54
        rw [← eS54] at G
        obtain ⟨h55, h⟩ := h
        refine gx_iinc C hl dX12_beside_23 rfl (PL' := [some (.inr (some o)), some (.inl y1), some (.inl (y2 + 1)), none]) rfl (fun ls hl => ?_)
        refine gx_goto (tgt := 9) C dX12_beside_26 (by decide) ?_
        exact ih y1 (y2 + 1) S54 H locs ls ry1 h55 hl G h
  clear eA
  unfold PT_X12_beside at h
  refine gx_aload_n C hl dX12_beside_0 rfl ?_
  refine gx_iconst C dX12_beside_1 ?_
  refine gx_putI C G rfl (fX12_o hV) (fo11_0 (fX12_c hV)) (show rng 0 by decide) uw_955 (fun _ h9 => h9) dX12_beside_2 (fun H locs G => ?_)
  obtain ⟨S56, eS56⟩ : ∃ q9 : Me, q9 = sI S o 0 0 := ⟨_, rfl⟩
  have h := h S56 eS56
  rw [← eS56] at G
  refine gx_iconst C dX12_beside_5 ?_
  refine gx_istore_n C hl dX12_beside_6 (Nat.le_of_ble_eq_true rfl) (PL' := [some (.inr (some o)), some (.inl 1), none, none]) rfl (fun ls hl => ?_)
  refine gx_iconst C dX12_beside_7 ?_
  refine gx_istore_n C hl dX12_beside_8 (Nat.le_of_ble_eq_true rfl) (PL' := [some (.inr (some o)), some (.inl 1), some (.inl 0), none]) rfl (fun ls hl => ?_)
  obtain ⟨n9, h⟩ := h
  exact b9 n9 1 0 S56 H locs ls (show rng 1 by decide) (show rng 0 by decide) hl G h
def PT_X12_count (V : Vt) (o : Nat) (x1 : Int) (S : Me) (Q : Int → Me → Prop) : Prop := ∀ S1 : Me, S1 = sI S o 0 0 → ((x1 = 0 → Q (S1.1 o 6) S1) ∧ (x1 = 1 → Q (S1.1 o 13) S1) ∧ (x1 = 2 → Q (S1.1 o 14) S1) ∧ (x1 = 3 → Q (S1.1 o 7) S1) ∧ (x1 = 4 → Q (S1.1 o 8) S1) ∧ (x1 = 5 → Q (S1.1 o 9) S1) ∧ (x1 = 6 → Q (S1.1 o 30) S1) ∧ (x1 = 7 → Q (S1.1 o 10) S1) ∧ ((x1 < 0 ∨ 7 < x1) → (((isin x1 8 11) = 0 → Q (-1) S1) ∧ (¬ (isin x1 8 11) = 0 → (rng (x1 - 8)) ∧ (0 ≤ (x1 - 8) ∧ (x1 - 8) < 4) ∧ Q (S1.1 (o + 12) (Int.toNat (x1 - 8))) S1))))
theorem hd_X12_count : yX12_count.cls ≠ "java/lang/invoke/MethodHandle" ∧ yX12_count.cls ≠ "java/lang/invoke/VarHandle" ∧ (parseMethodDescriptor yX12_count.desc).map (fun d => d.parameters.length) = some 1 := by decide +kernel
set_option maxHeartbeats 4000000 in
set_option maxRecDepth 100000 in
theorem c_X12_count (l : Launch) (D : va_G) (cy : ClassId × ClassId × ClassId × ClassId) (ad : Nat → Nat) {V : Vt} {S : Me} {o : Nat} {x1 : Int} (hV : fX12 V o) (rx1 : rng x1) {Q : Int → Me → Prop} (h : PT_X12_count V o x1 S Q) : KM l D cy yX12_count cX12_count 2 (Option.some Jvm.ClassFile.FieldType.int) 1 25 ad V S [.inr (some o), .inl x1] (qI Q) := by
  refine KM.of (by decide) rfl (Nat.le_of_ble_eq_true rfl) (own := RX12) (fun p e s m args below meth c A ls H locs eA C hret hml hmn hl G => ?_)
  have hl : lo ad ls [some (.inr (some o)), some (.inl x1)] := hl
  clear eA
  unfold PT_X12_count at h
  refine gx_aload_n C hl dX12_count_0 rfl ?_
  refine gx_iconst C dX12_count_1 ?_
  refine gx_putI C G rfl (fX12_o hV) (fo11_0 (fX12_c hV)) (show rng 0 by decide) uw_955 (fun _ h9 => h9) dX12_count_2 (fun H locs G => ?_)
  obtain ⟨S1, eS1⟩ : ∃ q9 : Me, q9 = sI S o 0 0 := ⟨_, rfl⟩
  have h := h S1 eS1
  rw [← eS1] at G
  refine gx_iload_n C hl dX12_count_5 rfl ?_
  by_cases c3 : x1 = 0
  · refine gx_tableIn (tgt := 52) C rx1 dX12_count_6 0 c3 (by decide) (by decide) rfl (by decide) ?_
    have h := h.1 c3
    refine gx_aload_n C hl dX12_count_52 rfl ?_
    refine gx_getI C G rfl (fX12_o hV) (fo11_6 (fX12_c hV)) uw_961 (fun _ h9 => h9) dX12_count_53 ?_
    have r2 := G.r o 6
    exact gx_iret C G hret r2 h dX12_count_56
  · by_cases c5 : x1 = 1
    · refine gx_tableIn (tgt := 57) C rx1 dX12_count_6 1 c5 (by decide) (by decide) rfl (by decide) ?_
      have h := h.2.1 c5
      refine gx_aload_n C hl dX12_count_57 rfl ?_
      refine gx_getI C G rfl (fX12_o hV) (fo11_13 (fX12_c hV)) uw_968 (fun _ h9 => h9) dX12_count_58 ?_
      have r4 := G.r o 13
      exact gx_iret C G hret r4 h dX12_count_61
    · by_cases c7 : x1 = 2
      · refine gx_tableIn (tgt := 62) C rx1 dX12_count_6 2 c7 (by decide) (by decide) rfl (by decide) ?_
        have h := h.2.2.1 c7
        refine gx_aload_n C hl dX12_count_62 rfl ?_
        refine gx_getI C G rfl (fX12_o hV) (fo11_14 (fX12_c hV)) uw_969 (fun _ h9 => h9) dX12_count_63 ?_
        have r6 := G.r o 14
        exact gx_iret C G hret r6 h dX12_count_66
      · by_cases c9 : x1 = 3
        · refine gx_tableIn (tgt := 67) C rx1 dX12_count_6 3 c9 (by decide) (by decide) rfl (by decide) ?_
          have h := h.2.2.2.1 c9
          refine gx_aload_n C hl dX12_count_67 rfl ?_
          refine gx_getI C G rfl (fX12_o hV) (fo11_7 (fX12_c hV)) uw_962 (fun _ h9 => h9) dX12_count_68 ?_
          have r8 := G.r o 7
          exact gx_iret C G hret r8 h dX12_count_71
        · by_cases c11 : x1 = 4
          · refine gx_tableIn (tgt := 72) C rx1 dX12_count_6 4 c11 (by decide) (by decide) rfl (by decide) ?_
            have h := h.2.2.2.2.1 c11
            refine gx_aload_n C hl dX12_count_72 rfl ?_
            refine gx_getI C G rfl (fX12_o hV) (fo11_8 (fX12_c hV)) uw_963 (fun _ h9 => h9) dX12_count_73 ?_
            have r10 := G.r o 8
            exact gx_iret C G hret r10 h dX12_count_76
          · by_cases c13 : x1 = 5
            · refine gx_tableIn (tgt := 77) C rx1 dX12_count_6 5 c13 (by decide) (by decide) rfl (by decide) ?_
              have h := h.2.2.2.2.2.1 c13
              refine gx_aload_n C hl dX12_count_77 rfl ?_
              refine gx_getI C G rfl (fX12_o hV) (fo11_9 (fX12_c hV)) uw_964 (fun _ h9 => h9) dX12_count_78 ?_
              have r12 := G.r o 9
              exact gx_iret C G hret r12 h dX12_count_81
            · by_cases c15 : x1 = 6
              · refine gx_tableIn (tgt := 82) C rx1 dX12_count_6 6 c15 (by decide) (by decide) rfl (by decide) ?_
                have h := h.2.2.2.2.2.2.1 c15
                refine gx_aload_n C hl dX12_count_82 rfl ?_
                refine gx_getI C G rfl (fX12_o hV) (fo11_30 (fX12_c hV)) uw_985 (fun _ h9 => h9) dX12_count_83 ?_
                have r14 := G.r o 30
                exact gx_iret C G hret r14 h dX12_count_86
              · by_cases c17 : x1 = 7
                · refine gx_tableIn (tgt := 87) C rx1 dX12_count_6 7 c17 (by decide) (by decide) rfl (by decide) ?_
                  have h := h.2.2.2.2.2.2.2.1 c17
                  refine gx_aload_n C hl dX12_count_87 rfl ?_
                  refine gx_getI C G rfl (fX12_o hV) (fo11_10 (fX12_c hV)) uw_965 (fun _ h9 => h9) dX12_count_88 ?_
                  have r16 := G.r o 10
                  exact gx_iret C G hret r16 h dX12_count_91
                · have c22 : x1 < 0 ∨ 7 < x1 := by omega
                  refine gx_tableOut (tgt := 92) C rx1 dX12_count_6 c22 (by decide) ?_
                  have h := h.2.2.2.2.2.2.2.2 c22
                  refine gx_iload_n C hl dX12_count_92 rfl ?_
                  refine gx_i2l C rx1 dX12_count_93 ?_
                  refine gx_ldc2 (n := 8) C uw_1125 dX12_count_94 ?_
                  refine gx_ldc2 (n := 11) C uw_1335 dX12_count_97 ?_
                  refine gx_isIn C G hl hml rx1 (show rng 8 by decide) (show rng 11 by decide) uw_1115 ⟨Nat.le_of_ble_eq_true rfl, Nat.le_of_ble_eq_true rfl⟩ ⟨Nat.zero_le _, Nat.zero_le _⟩ (hw_le ad [] rfl (Nat.le_of_ble_eq_true rfl)) dX12_count_100 ?_
                  refine gx_if_eq (tgt := 118) C (isin_r _ _ _) dX12_count_103 (by decide) (fun c18 => ?_) (fun c18 => ?_)
                  · have h := h.1 c18
                    refine gx_iconst C dX12_count_118 ?_
                    exact gx_iret C G hret (show rng (-1) by decide) h dX12_count_119
                  · have h := h.2 c18
                    refine gx_aload_n C hl dX12_count_106 rfl ?_
                    refine gx_getF C G rfl (fX12_o hV) (fo11_23 (fX12_c hV)) (fX12_doneOf hV) uw_978 (fun _ h9 => h9) dX12_count_107 ?_
                    refine gx_iload_n C hl dX12_count_110 rfl ?_
                    refine gx_bipush C dX12_count_111 (by decide) ?_
                    obtain ⟨h19, h⟩ := h
                    refine gx_isub C dX12_count_113 ?_
                    obtain ⟨h20, h⟩ := h
                    refine gx_iald C G rfl (fX12_doneOf_l hV) (fX12_doneOf_t hV) h19 h20.1 (ixl (fX12_doneOf_n hV) h20.2) dX12_count_114 ?_
                    have r21 := G.r (o + 12) (Int.toNat (x1 - 8))
                    refine gx_goto (tgt := 119) C dX12_count_115 (by decide) ?_
                    exact gx_iret C G hret r21 h dX12_count_119
def PT_X12_isShelf (V : Vt) (x1 : Int) (S : Me) (Q : Int → Me → Prop) : Prop := ((x1 < 0 → Q 0 S) ∧ (¬ x1 < 0 → ((8 ≤ x1 → Q 0 S) ∧ (¬ 8 ≤ x1 → Q 1 S))))
theorem hd_X12_isShelf : yX12_isShelf.cls ≠ "java/lang/invoke/MethodHandle" ∧ yX12_isShelf.cls ≠ "java/lang/invoke/VarHandle" ∧ (parseMethodDescriptor yX12_isShelf.desc).map (fun d => d.parameters.length) = some 1 := by decide +kernel
set_option maxHeartbeats 4000000 in
set_option maxRecDepth 100000 in
theorem c_X12_isShelf (l : Launch) (D : va_G) (cy : ClassId × ClassId × ClassId × ClassId) (ad : Nat → Nat) {V : Vt} {S : Me} {x1 : Int} (rx1 : rng x1) {Q : Int → Me → Prop} (h : PT_X12_isShelf V x1 S Q) : KM l D cy yX12_isShelf cX12_isShelf 1 (Option.some Jvm.ClassFile.FieldType.boolean) 0 0 ad V S [.inl x1] (qI Q) := by
  refine KM.of (by decide) rfl (Nat.le_of_ble_eq_true rfl) (own := RX12) (fun p e s m args below meth c A ls H locs eA C hret hml hmn hl G => ?_)
  have hl : lo ad ls [some (.inl x1)] := hl
  clear eA
  unfold PT_X12_isShelf at h
  refine gx_iload_n C hl dX12_isShelf_0 rfl ?_
  refine gx_if_lt (tgt := 14) C rx1 dX12_isShelf_1 (by decide) (fun c1 => ?_) (fun c1 => ?_)
  · have h := h.1 c1
    refine gx_iconst C dX12_isShelf_14 ?_
    exact gx_zret C G hret (Or.inl rfl) h dX12_isShelf_15
  · have h := h.2 c1
    refine gx_iload_n C hl dX12_isShelf_4 rfl ?_
    refine gx_bipush C dX12_isShelf_5 (by decide) ?_
    refine gx_icmp_ge (tgt := 14) C rx1 (show rng 8 by decide) dX12_isShelf_7 (by decide) (fun c2 => ?_) (fun c2 => ?_)
    · have h := h.1 c2
      refine gx_iconst C dX12_isShelf_14 ?_
      exact gx_zret C G hret (Or.inl rfl) h dX12_isShelf_15
    · have h := h.2 c2
      refine gx_iconst C dX12_isShelf_10 ?_
      refine gx_goto (tgt := 15) C dX12_isShelf_11 (by decide) ?_
      exact gx_zret C G hret (Or.inr rfl) h dX12_isShelf_15
def PT_X12_addressOf (V : Vt) (o : Nat) (x1 : Int) (x2 : Int) (x3 : Int) (S : Me) (Q : Int → Me → Prop) : Prop := (rng (64 * x2)) ∧ (rng (16 * (bXor x1 (Int.tmod x2 4)))) ∧ (rng ((64 * x2) + (16 * (bXor x1 (Int.tmod x2 4))))) ∧ (rng (((64 * x2) + (16 * (bXor x1 (Int.tmod x2 4)))) + x3)) ∧ Q (((64 * x2) + (16 * (bXor x1 (Int.tmod x2 4)))) + x3) S
theorem hd_X12_addressOf : yX12_addressOf.cls ≠ "java/lang/invoke/MethodHandle" ∧ yX12_addressOf.cls ≠ "java/lang/invoke/VarHandle" ∧ (parseMethodDescriptor yX12_addressOf.desc).map (fun d => d.parameters.length) = some 3 := by decide +kernel
set_option maxHeartbeats 4000000 in
set_option maxRecDepth 100000 in
theorem c_X12_addressOf (l : Launch) (D : va_G) (cy : ClassId × ClassId × ClassId × ClassId) (ad : Nat → Nat) {V : Vt} {S : Me} {o : Nat} {x1 : Int} {x2 : Int} {x3 : Int} (hV : fX12 V o) (rx1 : rng x1) (rx2 : rng x2) (rx3 : rng x3) {Q : Int → Me → Prop} (h : PT_X12_addressOf V o x1 x2 x3 S Q) : KM l D cy yX12_addressOf cX12_addressOf 4 (Option.some Jvm.ClassFile.FieldType.int) 0 0 ad V S [.inr (some o), .inl x1, .inl x2, .inl x3] (qI Q) := by
  refine KM.of (by decide) rfl (Nat.le_of_ble_eq_true rfl) (own := RX12) (fun p e s m args below meth c A ls H locs eA C hret hml hmn hl G => ?_)
  have hl : lo ad ls [some (.inr (some o)), some (.inl x1), some (.inl x2), some (.inl x3)] := hl
  clear eA
  unfold PT_X12_addressOf at h
  refine gx_bipush C dX12_addressOf_0 (by decide) ?_
  refine gx_iload_n C hl dX12_addressOf_2 rfl ?_
  obtain ⟨h1, h⟩ := h
  refine gx_imul C dX12_addressOf_3 ?_
  refine gx_bipush C dX12_addressOf_4 (by decide) ?_
  refine gx_iload_n C hl dX12_addressOf_6 rfl ?_
  refine gx_iload_n C hl dX12_addressOf_7 rfl ?_
  refine gx_iconst C dX12_addressOf_8 ?_
  refine gx_irem C rx2 (show rng 4 by decide) (by decide) dX12_addressOf_9 ?_
  refine gx_ixor C dX12_addressOf_10 ?_
  obtain ⟨h2, h⟩ := h
  refine gx_imul C dX12_addressOf_11 ?_
  obtain ⟨h3, h⟩ := h
  refine gx_iadd C dX12_addressOf_12 ?_
  refine gx_iload_n C hl dX12_addressOf_13 rfl ?_
  obtain ⟨h4, h⟩ := h
  refine gx_iadd C dX12_addressOf_14 ?_
  exact gx_iret C G hret h4 h dX12_addressOf_15
def B_X12_keep_169 (V : Vt) (o : Nat) (x1 : Int) (x2 : Int) (x3 : Int) (K109 : Int → Me → Prop) (y5 : Int) (w0 : Option Nat) (w1 : Int) (w2 : Int) (S : Me) (Q : Int → Me → Prop) : Prop := ∃ z1 : Nat, w0 = some z1 ∧ V.2.1 z1 = 12 ∧ (0 ≤ w1 ∧ w1 < (V.2.2.1 z1 : Int)) ∧ ∀ S3 : Me, S3 = sI S z1 (Int.toNat w1) w2 → (rng (y5 + 1)) ∧ K109 (y5 + 1) S3
def B_X12_keep_109 (V : Vt) (o : Nat) (x1 : Int) (x2 : Int) (x3 : Int) (Q : Int → Me → Prop) : Nat → (Int → Me → Prop)
  | 0 => fun _ _ => False
  | n + 1 => fun y5 S => (0 ≤ x1 ∧ x1 < 8) ∧ (((S.1 (o + 26) (Int.toNat x1)) ≤ y5 → Q 0 S) ∧ (¬ (S.1 (o + 26) (Int.toNat x1)) ≤ y5 → (rng (60 * x1)) ∧ (rng ((60 * x1) + y5)) ∧ ((¬ x2 = 4 → PT_X12_addressOf V o (Int.tdiv x3 16) (Int.tmod x3 16) y5 S (fun t12 S11 => (0 ≤ t12 ∧ t12 < 1024) ∧ (rng ((S11.1 (o + 3) (Int.toNat t12)) - 128)) ∧ B_X12_keep_169 V o x1 x2 x3 (B_X12_keep_109 V o x1 x2 x3 Q n) y5 (some (o + 28)) ((60 * x1) + y5) ((S11.1 (o + 3) (Int.toNat t12)) - 128) S11 Q)) ∧ (x2 = 4 → (0 ≤ y5 ∧ y5 < 13) ∧ B_X12_keep_169 V o x1 x2 x3 (B_X12_keep_109 V o x1 x2 x3 Q n) y5 (some (o + 28)) ((60 * x1) + y5) (S.1 (o + 1) (Int.toNat y5)) S Q))))
def B_X12_keep_105 (V : Vt) (o : Nat) (x1 : Int) (x2 : Int) (x3 : Int) (w0 : Option Nat) (w1 : Int) (w2 : Int) (S : Me) (Q : Int → Me → Prop) : Prop := ∃ z18 : Nat, w0 = some z18 ∧ V.2.1 z18 = 12 ∧ (0 ≤ w1 ∧ w1 < (V.2.2.1 z18 : Int)) ∧ ∀ S20 : Me, S20 = sI S z18 (Int.toNat w1) w2 → (∃ n9 : Nat, B_X12_keep_109 V o x1 x2 x3 Q n9 0 S20)
def B_X12_keep_56 (V : Vt) (o : Nat) (x1 : Int) (x2 : Int) (x3 : Int) (w0 : Int) (S : Me) (Q : Int → Me → Prop) : Prop := ((¬ w0 = 0 → (0 ≤ x1 ∧ x1 < 8) ∧ ∀ S23 : Me, S23 = sI S (o + 25) (Int.toNat x1) x2 → (0 ≤ x1 ∧ x1 < 8) ∧ ∀ S25 : Me, S25 = sI S23 (o + 27) (Int.toNat x1) x3 → ((¬ x2 = 3 → ((¬ x2 = 4 → B_X12_keep_105 V o x1 x2 x3 (some (o + 26)) x1 0 S25 Q) ∧ (x2 = 4 → B_X12_keep_105 V o x1 x2 x3 (some (o + 26)) x1 13 S25 Q))) ∧ (x2 = 3 → B_X12_keep_105 V o x1 x2 x3 (some (o + 26)) x1 16 S25 Q))) ∧ (w0 = 0 → Q (-1) S))
def B_X12_keep_55 (V : Vt) (o : Nat) (x1 : Int) (x2 : Int) (x3 : Int) (S : Me) (Q : Int → Me → Prop) : Prop := B_X12_keep_56 V o x1 x2 x3 0 S Q
def B_X12_keep_51 (V : Vt) (o : Nat) (x1 : Int) (x2 : Int) (x3 : Int) (S : Me) (Q : Int → Me → Prop) : Prop := B_X12_keep_56 V o x1 x2 x3 1 S Q
def B_X12_keep_46 (V : Vt) (o : Nat) (x1 : Int) (x2 : Int) (x3 : Int) (S : Me) (Q : Int → Me → Prop) : Prop := ((¬ x2 = 4 → B_X12_keep_55 V o x1 x2 x3 S Q) ∧ (x2 = 4 → B_X12_keep_51 V o x1 x2 x3 S Q))
def B_X12_keep_29 (V : Vt) (o : Nat) (x1 : Int) (x2 : Int) (x3 : Int) (S : Me) (Q : Int → Me → Prop) : Prop := ((¬ x2 = 3 → B_X12_keep_46 V o x1 x2 x3 S Q) ∧ (x2 = 3 → ((¬ (isin x3 0 63) = 0 → B_X12_keep_51 V o x1 x2 x3 S Q) ∧ ((isin x3 0 63) = 0 → B_X12_keep_46 V o x1 x2 x3 S Q))))
def PT_X12_keep (V : Vt) (o : Nat) (x1 : Int) (x2 : Int) (x3 : Int) (S : Me) (Q : Int → Me → Prop) : Prop := ∀ S31 : Me, S31 = sI S o 0 0 → PT_X12_isShelf V x1 S31 (fun t33 S32 => ((t33 = 0 → B_X12_keep_55 V o x1 x2 x3 S32 Q) ∧ (¬ t33 = 0 → ((x2 = 0 → B_X12_keep_51 V o x1 x2 x3 S32 Q) ∧ (¬ x2 = 0 → ((¬ x2 = 1 → B_X12_keep_29 V o x1 x2 x3 S32 Q) ∧ (x2 = 1 → PT_X12_isAsk V o x3 S32 (fun t38 S37 => ((¬ t38 = 0 → B_X12_keep_51 V o x1 x2 x3 S37 Q) ∧ (t38 = 0 → B_X12_keep_29 V o x1 x2 x3 S37 Q))))))))))
theorem hd_X12_keep : yX12_keep.cls ≠ "java/lang/invoke/MethodHandle" ∧ yX12_keep.cls ≠ "java/lang/invoke/VarHandle" ∧ (parseMethodDescriptor yX12_keep.desc).map (fun d => d.parameters.length) = some 3 := by decide +kernel
set_option maxHeartbeats 4000000 in
set_option maxRecDepth 100000 in
theorem c_X12_keep (l : Launch) (D : va_G) (cy : ClassId × ClassId × ClassId × ClassId) (ad : Nat → Nat) {V : Vt} {S : Me} {o : Nat} {x1 : Int} {x2 : Int} {x3 : Int} (hV : fX12 V o) (rx1 : rng x1) (rx2 : rng x2) (rx3 : rng x3) {Q : Int → Me → Prop} (h : PT_X12_keep V o x1 x2 x3 S Q) : KM l D cy yX12_keep cX12_keep 6 (Option.some Jvm.ClassFile.FieldType.int) 1 25 ad V S [.inr (some o), .inl x1, .inl x2, .inl x3] (qI Q) := by
  refine KM.of (by decide) rfl (Nat.le_of_ble_eq_true rfl) (own := RX12) (fun p e s m args below meth c A ls H locs eA C hret hml hmn hl G => ?_)
  have hl : lo ad ls [some (.inr (some o)), some (.inl x1), some (.inl x2), some (.inl x3), none, none] := hl
  have b169 : ∀ (K109 : Int → Me → Prop) (hK109 : ∀ (y5 : Int) (S : Me) (H : Heap) (locs : List Loc) (ls : Array Slot), rng y5 → lo ad ls [some (.inr (some o)), some (.inl x1), some (.inl x2), some (.inl x3), none, some (.inl y5)] → Gy D cy A s.heap ad V S H locs → K109 y5 S → W p l e (rmx 1 25) s m args below meth c H locs 0 0 (qm below D cy ad V A args s (qI Q)) (F0 m 109 ls [])) (y5 : Int) (w0 : Option Nat) (w1 : Int) (w2 : Int) (S : Me) (H : Heap) (locs : List Loc) (ls : Array Slot), rng y5 → (∀ z, w0 = some z → z < V.1) → rng w1 → rng w2 → lo ad ls [some (.inr (some o)), some (.inl x1), some (.inl x2), some (.inl x3), none, some (.inl y5)] → Gy D cy A s.heap ad V S H locs → B_X12_keep_169 V o x1 x2 x3 K109 y5 w0 w1 w2 S Q → W p l e (rmx 1 25) s m args below meth c H locs 0 0 (qm below D cy ad V A args s (qI Q)) (F0 m 169 ls [vI w2, vI w1, vR ad w0]) := by
    intro K109 hK109 y5 w0 w1 w2 S H locs ls ry5 vw0 rw1 rw2 hl G h
    unfold B_X12_keep_169 at h
    obtain ⟨z1, hz1, tz1, h⟩ := h
    have lz1 := (vw0 z1 hz1)
    obtain ⟨h2, h⟩ := h
    refine gx_iast C G hz1 lz1 tz1 rw1 rw2 h2.1 h2.2 dX12_keep_169 (fun H locs G => ?_)
    obtain ⟨S3, eS3⟩ : ∃ q9 : Me, q9 = sI S z1 (Int.toNat w1) w2 := ⟨_, rfl⟩
    have h := h S3 eS3
    rw [← eS3] at G
    obtain ⟨h4, h⟩ := h
    refine gx_iinc C hl dX12_keep_170 rfl (PL' := [some (.inr (some o)), some (.inl x1), some (.inl x2), some (.inl x3), none, some (.inl (y5 + 1))]) rfl (fun ls hl => ?_)
    refine gx_goto (tgt := 109) C dX12_keep_173 (by decide) ?_
    exact hK109 (y5 + 1) S3 H locs ls h4 hl G h
  have b109 : ∀ (n : Nat) (y5 : Int) (S : Me) (H : Heap) (locs : List Loc) (ls : Array Slot), rng y5 → lo ad ls [some (.inr (some o)), some (.inl x1), some (.inl x2), some (.inl x3), none, some (.inl y5)] → Gy D cy A s.heap ad V S H locs → B_X12_keep_109 V o x1 x2 x3 Q n y5 S → W p l e (rmx 1 25) s m args below meth c H locs 0 0 (qm below D cy ad V A args s (qI Q)) (F0 m 109 ls []) := by
    intro n
    induction n with
    | zero =>
      intro y5 S H locs ls ry5 hl G h
      exact absurd h id
    | succ n ih =>
      intro y5 S H locs ls ry5 hl G h
      rw [B_X12_keep_109] at h
      refine gx_iload C hl dX12_keep_109 rfl ?_
      refine gx_aload_n C hl dX12_keep_111 rfl ?_
      refine gx_getF C G rfl (fX12_o hV) (fo11_46 (fX12_c hV)) (fX12_shelfSize hV) uw_1001 (fun _ h9 => h9) dX12_keep_112 ?_
      refine gx_iload_n C hl dX12_keep_115 rfl ?_
      obtain ⟨h5, h⟩ := h
      refine gx_iald C G rfl (fX12_shelfSize_l hV) (fX12_shelfSize_t hV) rx1 h5.1 (ixl (fX12_shelfSize_n hV) h5.2) dX12_keep_116 ?_
      have r6 := G.r (o + 26) (Int.toNat x1)
      refine gx_icmp_ge (tgt := 176) C ry5 r6 dX12_keep_117 (by decide) (fun c7 => ?_) (fun c7 => ?_)
      · have h := h.1 c7
        refine gx_iconst C dX12_keep_176 ?_
        exact gx_iret C G hret (show rng 0 by decide) h dX12_keep_177
      · have h := h.2 c7
        refine gx_aload_n C hl dX12_keep_120 rfl ?_
        refine gx_getF C G rfl (fX12_o hV) (fo11_48 (fX12_c hV)) (fX12_shelfRow hV) uw_1003 (fun _ h9 => h9) dX12_keep_121 ?_
        refine gx_bipush C dX12_keep_124 (by decide) ?_
        refine gx_iload_n C hl dX12_keep_126 rfl ?_
        obtain ⟨h8, h⟩ := h
        refine gx_imul C dX12_keep_127 ?_
        refine gx_iload C hl dX12_keep_128 rfl ?_
        obtain ⟨h9, h⟩ := h
        refine gx_iadd C dX12_keep_130 ?_
        refine gx_iload_n C hl dX12_keep_131 rfl ?_
        refine gx_iconst C dX12_keep_132 ?_
        refine gx_icmp_ne (tgt := 146) C rx2 (show rng 4 by decide) dX12_keep_133 (by decide) (fun c10 => ?_) (fun c10 => ?_)
        · have h := h.1 c10
          refine gx_aload_n C hl dX12_keep_146 rfl ?_
          refine gx_getF C G rfl (fX12_o hV) (fo11_12 (fX12_c hV)) (fX12_memory hV) uw_967 (fun _ h9 => h9) dX12_keep_147 ?_
          refine gx_aload_n C hl dX12_keep_150 rfl ?_
          refine gx_iload_n C hl dX12_keep_151 rfl ?_
          refine gx_bipush C dX12_keep_152 (by decide) ?_
          refine gx_idiv C rx3 (show rng 16 by decide) (by decide) dX12_keep_154 ?_
          refine gx_iload_n C hl dX12_keep_155 rfl ?_
          refine gx_bipush C dX12_keep_156 (by decide) ?_
          refine gx_irem C rx3 (show rng 16 by decide) (by decide) dX12_keep_158 ?_
          refine gx_iload C hl dX12_keep_159 rfl ?_
          refine gx_callV C G hl hml (c_X12_addressOf l D cy ad hV (rg_dv rx3 (by decide)) (rg_md rx3) ry5 h) rfl (fX12_o hV) (by rw [(fX12_c hV)]; rfl) (by rw [(fX12_c hV)]; decide) rfl uw_1347 uw_1344 uw_1346 up_43 uw_9 hd_X12_addressOf ⟨Nat.le_of_ble_eq_true rfl, Nat.le_of_ble_eq_true rfl⟩ ⟨Nat.zero_le _, Nat.zero_le _⟩ rfl rfl (hw_le ad [.inr (some (o + 3)), .inl ((60 * x1) + y5), .inr (some (o + 28))] rfl (Nat.le_of_ble_eq_true rfl)) dX12_keep_161 (kkI (fun t12 S11 H locs rt12 h G => ?_))
          obtain ⟨h13, h⟩ := h
          refine gx_iald C G rfl (fX12_memory_l hV) (fX12_memory_t hV) rt12 h13.1 (ixl (fX12_memory_n hV) h13.2) dX12_keep_164 ?_
          have r14 := G.r (o + 3) (Int.toNat t12)
          refine gx_sipush C dX12_keep_165 (by decide) ?_
          obtain ⟨h15, h⟩ := h
          refine gx_isub C dX12_keep_168 ?_
          exact b169 (B_X12_keep_109 V o x1 x2 x3 Q n) ih y5 (some (o + 28)) ((60 * x1) + y5) ((S11.1 (o + 3) (Int.toNat t12)) - 128) S11 H locs ls ry5 (vsome (fX12_shelfRow_l hV)) h9 h15 hl G h
        · have h := h.2 c10
          refine gx_aload_n C hl dX12_keep_136 rfl ?_
          refine gx_getF C G rfl (fX12_o hV) (fo11_1 (fX12_c hV)) (fX12_time hV) uw_956 (fun _ h9 => h9) dX12_keep_137 ?_
          refine gx_iload C hl dX12_keep_140 rfl ?_
          obtain ⟨h16, h⟩ := h
          refine gx_iald C G rfl (fX12_time_l hV) (fX12_time_t hV) ry5 h16.1 (ixl (fX12_time_n hV) h16.2) dX12_keep_142 ?_
          have r17 := G.r (o + 1) (Int.toNat y5)
          refine gx_goto (tgt := 169) C dX12_keep_143 (by decide) ?_
          exact b169 (B_X12_keep_109 V o x1 x2 x3 Q n) ih y5 (some (o + 28)) ((60 * x1) + y5) (S.1 (o + 1) (Int.toNat y5)) S H locs ls ry5 (vsome (fX12_shelfRow_l hV)) h9 r17 hl G h
  have b105 : ∀ (w0 : Option Nat) (w1 : Int) (w2 : Int) (S : Me) (H : Heap) (locs : List Loc) (ls : Array Slot), (∀ z, w0 = some z → z < V.1) → rng w1 → rng w2 → lo ad ls [some (.inr (some o)), some (.inl x1), some (.inl x2), some (.inl x3), none, none] → Gy D cy A s.heap ad V S H locs → B_X12_keep_105 V o x1 x2 x3 w0 w1 w2 S Q → W p l e (rmx 1 25) s m args below meth c H locs 0 0 (qm below D cy ad V A args s (qI Q)) (F0 m 105 ls [vI w2, vI w1, vR ad w0]) := by
    intro w0 w1 w2 S H locs ls vw0 rw1 rw2 hl G h
    unfold B_X12_keep_105 at h
    obtain ⟨z18, hz18, tz18, h⟩ := h
    have lz18 := (vw0 z18 hz18)
    obtain ⟨h19, h⟩ := h
    refine gx_iast C G hz18 lz18 tz18 rw1 rw2 h19.1 h19.2 dX12_keep_105 (fun H locs G => ?_)
    obtain ⟨S20, eS20⟩ : ∃ q9 : Me, q9 = sI S z18 (Int.toNat w1) w2 := ⟨_, rfl⟩
    have h := h S20 eS20
    rw [← eS20] at G
    refine gx_iconst C dX12_keep_106 ?_
    refine gx_istore C hl dX12_keep_107 (Nat.le_of_ble_eq_true rfl) (PL' := [some (.inr (some o)), some (.inl x1), some (.inl x2), some (.inl x3), none, some (.inl 0)]) rfl (fun ls hl => ?_)
    obtain ⟨n9, h⟩ := h
    exact b109 n9 0 S20 H locs ls (show rng 0 by decide) hl G h
  have b56 : ∀ (w0 : Int) (S : Me) (H : Heap) (locs : List Loc) (ls : Array Slot), rng w0 → lo ad ls [some (.inr (some o)), some (.inl x1), some (.inl x2), some (.inl x3), none, none] → Gy D cy A s.heap ad V S H locs → B_X12_keep_56 V o x1 x2 x3 w0 S Q → W p l e (rmx 1 25) s m args below meth c H locs 0 0 (qm below D cy ad V A args s (qI Q)) (F0 m 56 ls [vI w0]) := by
    intro w0 S H locs ls rw0 hl G h
    unfold B_X12_keep_56 at h
    refine gx_istore C hl dX12_keep_56 (Nat.le_of_ble_eq_true rfl) (PL' := [some (.inr (some o)), some (.inl x1), some (.inl x2), some (.inl x3), some (.inl w0), none]) rfl (fun ls hl => ?_)
    refine gx_iload C hl dX12_keep_58 rfl ?_
    refine gx_if_ne (tgt := 65) C rw0 dX12_keep_60 (by decide) (fun c21 => ?_) (fun c21 => ?_)
    · have h := h.1 c21
      refine gx_aload_n C hl dX12_keep_65 rfl ?_
      refine gx_getF C G rfl (fX12_o hV) (fo11_45 (fX12_c hV)) (fX12_shelf hV) uw_1000 (fun _ h9 => h9) dX12_keep_66 ?_
      refine gx_iload_n C hl dX12_keep_69 rfl ?_
      refine gx_iload_n C hl dX12_keep_70 rfl ?_
      obtain ⟨h22, h⟩ := h
      refine gx_iast C G rfl (fX12_shelf_l hV) (fX12_shelf_t hV) rx1 rx2 h22.1 (ixl (fX12_shelf_n hV) h22.2) dX12_keep_71 (fun H locs G => ?_)
      obtain ⟨S23, eS23⟩ : ∃ q9 : Me, q9 = sI S (o + 25) (Int.toNat x1) x2 := ⟨_, rfl⟩
      have h := h S23 eS23
      rw [← eS23] at G
      refine gx_aload_n C hl dX12_keep_72 rfl ?_
      refine gx_getF C G rfl (fX12_o hV) (fo11_47 (fX12_c hV)) (fX12_shelfAsk hV) uw_1002 (fun _ h9 => h9) dX12_keep_73 ?_
      refine gx_iload_n C hl dX12_keep_76 rfl ?_
      refine gx_iload_n C hl dX12_keep_77 rfl ?_
      obtain ⟨h24, h⟩ := h
      refine gx_iast C G rfl (fX12_shelfAsk_l hV) (fX12_shelfAsk_t hV) rx1 rx3 h24.1 (ixl (fX12_shelfAsk_n hV) h24.2) dX12_keep_78 (fun H locs G => ?_)
      obtain ⟨S25, eS25⟩ : ∃ q9 : Me, q9 = sI S23 (o + 27) (Int.toNat x1) x3 := ⟨_, rfl⟩
      have h := h S25 eS25
      rw [← eS25] at G
      refine gx_aload_n C hl dX12_keep_79 rfl ?_
      refine gx_getF C G rfl (fX12_o hV) (fo11_46 (fX12_c hV)) (fX12_shelfSize hV) uw_1001 (fun _ h9 => h9) dX12_keep_80 ?_
      refine gx_iload_n C hl dX12_keep_83 rfl ?_
      refine gx_iload_n C hl dX12_keep_84 rfl ?_
      refine gx_iconst C dX12_keep_85 ?_
      refine gx_icmp_ne (tgt := 94) C rx2 (show rng 3 by decide) dX12_keep_86 (by decide) (fun c26 => ?_) (fun c26 => ?_)
      · have h := h.1 c26
        refine gx_iload_n C hl dX12_keep_94 rfl ?_
        refine gx_iconst C dX12_keep_95 ?_
        refine gx_icmp_ne (tgt := 104) C rx2 (show rng 4 by decide) dX12_keep_96 (by decide) (fun c27 => ?_) (fun c27 => ?_)
        · have h := h.1 c27
          refine gx_iconst C dX12_keep_104 ?_
          exact b105 (some (o + 26)) x1 0 S25 H locs ls (vsome (fX12_shelfSize_l hV)) rx1 (show rng 0 by decide) (lo_mask (bs := [true, true, true, true, false, false]) hl rfl rfl) G h
        · have h := h.2 c27
          refine gx_bipush C dX12_keep_99 (by decide) ?_
          refine gx_goto (tgt := 105) C dX12_keep_101 (by decide) ?_
          exact b105 (some (o + 26)) x1 13 S25 H locs ls (vsome (fX12_shelfSize_l hV)) rx1 (show rng 13 by decide) (lo_mask (bs := [true, true, true, true, false, false]) hl rfl rfl) G h
      · have h := h.2 c26
        refine gx_bipush C dX12_keep_89 (by decide) ?_
        refine gx_goto (tgt := 105) C dX12_keep_91 (by decide) ?_
        exact b105 (some (o + 26)) x1 16 S25 H locs ls (vsome (fX12_shelfSize_l hV)) rx1 (show rng 16 by decide) (lo_mask (bs := [true, true, true, true, false, false]) hl rfl rfl) G h
    · have h := h.2 c21
      refine gx_iconst C dX12_keep_63 ?_
      exact gx_iret C G hret (show rng (-1) by decide) h dX12_keep_64
  have b55 : ∀ (S : Me) (H : Heap) (locs : List Loc) (ls : Array Slot), lo ad ls [some (.inr (some o)), some (.inl x1), some (.inl x2), some (.inl x3), none, none] → Gy D cy A s.heap ad V S H locs → B_X12_keep_55 V o x1 x2 x3 S Q → W p l e (rmx 1 25) s m args below meth c H locs 0 0 (qm below D cy ad V A args s (qI Q)) (F0 m 55 ls []) := by
    intro S H locs ls hl G h
    unfold B_X12_keep_55 at h
    refine gx_iconst C dX12_keep_55 ?_
    exact b56 0 S H locs ls (show rng 0 by decide) hl G h
  have b51 : ∀ (S : Me) (H : Heap) (locs : List Loc) (ls : Array Slot), lo ad ls [some (.inr (some o)), some (.inl x1), some (.inl x2), some (.inl x3), none, none] → Gy D cy A s.heap ad V S H locs → B_X12_keep_51 V o x1 x2 x3 S Q → W p l e (rmx 1 25) s m args below meth c H locs 0 0 (qm below D cy ad V A args s (qI Q)) (F0 m 51 ls []) := by
    intro S H locs ls hl G h
    unfold B_X12_keep_51 at h
    refine gx_iconst C dX12_keep_51 ?_
    refine gx_goto (tgt := 56) C dX12_keep_52 (by decide) ?_
    exact b56 1 S H locs ls (show rng 1 by decide) hl G h
  have b46 : ∀ (S : Me) (H : Heap) (locs : List Loc) (ls : Array Slot), lo ad ls [some (.inr (some o)), some (.inl x1), some (.inl x2), some (.inl x3), none, none] → Gy D cy A s.heap ad V S H locs → B_X12_keep_46 V o x1 x2 x3 S Q → W p l e (rmx 1 25) s m args below meth c H locs 0 0 (qm below D cy ad V A args s (qI Q)) (F0 m 46 ls []) := by
    intro S H locs ls hl G h
    unfold B_X12_keep_46 at h
    refine gx_iload_n C hl dX12_keep_46 rfl ?_
    refine gx_iconst C dX12_keep_47 ?_
    refine gx_icmp_ne (tgt := 55) C rx2 (show rng 4 by decide) dX12_keep_48 (by decide) (fun c28 => ?_) (fun c28 => ?_)
    · have h := h.1 c28
      exact b55 S H locs ls hl G h
    · have h := h.2 c28
      exact b51 S H locs ls hl G h
  have b29 : ∀ (S : Me) (H : Heap) (locs : List Loc) (ls : Array Slot), lo ad ls [some (.inr (some o)), some (.inl x1), some (.inl x2), some (.inl x3), none, none] → Gy D cy A s.heap ad V S H locs → B_X12_keep_29 V o x1 x2 x3 S Q → W p l e (rmx 1 25) s m args below meth c H locs 0 0 (qm below D cy ad V A args s (qI Q)) (F0 m 29 ls []) := by
    intro S H locs ls hl G h
    unfold B_X12_keep_29 at h
    refine gx_iload_n C hl dX12_keep_29 rfl ?_
    refine gx_iconst C dX12_keep_30 ?_
    refine gx_icmp_ne (tgt := 46) C rx2 (show rng 3 by decide) dX12_keep_31 (by decide) (fun c29 => ?_) (fun c29 => ?_)
    · have h := h.1 c29
      exact b46 S H locs ls hl G h
    · have h := h.2 c29
      refine gx_iload_n C hl dX12_keep_34 rfl ?_
      refine gx_i2l C rx3 dX12_keep_35 ?_
      refine gx_lconst (x := 0) C (by decide) dX12_keep_36 ?_
      refine gx_ldc2 (n := 63) C uw_1343 dX12_keep_37 ?_
      refine gx_isIn C G hl hml rx3 (show rng 0 by decide) (show rng 63 by decide) uw_1115 ⟨Nat.le_of_ble_eq_true rfl, Nat.le_of_ble_eq_true rfl⟩ ⟨Nat.zero_le _, Nat.zero_le _⟩ (hw_le ad [] rfl (Nat.le_of_ble_eq_true rfl)) dX12_keep_40 ?_
      refine gx_if_ne (tgt := 51) C (isin_r _ _ _) dX12_keep_43 (by decide) (fun c30 => ?_) (fun c30 => ?_)
      · have h := h.1 c30
        exact b51 S H locs ls hl G h
      · have h := h.2 c30
        exact b46 S H locs ls hl G h
  clear eA
  unfold PT_X12_keep at h
  refine gx_aload_n C hl dX12_keep_0 rfl ?_
  refine gx_iconst C dX12_keep_1 ?_
  refine gx_putI C G rfl (fX12_o hV) (fo11_0 (fX12_c hV)) (show rng 0 by decide) uw_955 (fun _ h9 => h9) dX12_keep_2 (fun H locs G => ?_)
  obtain ⟨S31, eS31⟩ : ∃ q9 : Me, q9 = sI S o 0 0 := ⟨_, rfl⟩
  have h := h S31 eS31
  rw [← eS31] at G
  refine gx_iload_n C hl dX12_keep_5 rfl ?_
  refine gx_callS C G hl hml (c_X12_isShelf l D cy ad rx1 h) uw_1342 uw_1340 uw_1341 uw_9 hd_X12_isShelf ⟨Nat.le_of_ble_eq_true rfl, Nat.le_of_ble_eq_true rfl⟩ ⟨Nat.zero_le _, Nat.zero_le _⟩ rfl rfl (hw_le ad [] rfl (Nat.le_of_ble_eq_true rfl)) dX12_keep_6 (kkI (fun t33 S32 H locs rt33 h G => ?_))
  refine gx_if_eq (tgt := 55) C rt33 dX12_keep_9 (by decide) (fun c34 => ?_) (fun c34 => ?_)
  · have h := h.1 c34
    exact b55 S32 H locs ls hl G h
  · have h := h.2 c34
    refine gx_iload_n C hl dX12_keep_12 rfl ?_
    refine gx_if_eq (tgt := 51) C rx2 dX12_keep_13 (by decide) (fun c35 => ?_) (fun c35 => ?_)
    · have h := h.1 c35
      exact b51 S32 H locs ls hl G h
    · have h := h.2 c35
      refine gx_iload_n C hl dX12_keep_16 rfl ?_
      refine gx_iconst C dX12_keep_17 ?_
      refine gx_icmp_ne (tgt := 29) C rx2 (show rng 1 by decide) dX12_keep_18 (by decide) (fun c36 => ?_) (fun c36 => ?_)
      · have h := h.1 c36
        exact b29 S32 H locs ls hl G h
      · have h := h.2 c36
        refine gx_aload_n C hl dX12_keep_21 rfl ?_
        refine gx_iload_n C hl dX12_keep_22 rfl ?_
        refine gx_callV C G hl hml (c_X12_isAsk l D cy ad hV rx3 h) rfl (fX12_o hV) (by rw [(fX12_c hV)]; rfl) (by rw [(fX12_c hV)]; decide) rfl uw_1279 uw_1276 uw_1278 up_40 uw_9 hd_X12_isAsk ⟨Nat.le_of_ble_eq_true rfl, Nat.le_of_ble_eq_true rfl⟩ ⟨Nat.zero_le _, Nat.zero_le _⟩ rfl rfl (hw_le ad [] rfl (Nat.le_of_ble_eq_true rfl)) dX12_keep_23 (kkI (fun t38 S37 H locs rt38 h G => ?_))
        refine gx_if_ne (tgt := 51) C rt38 dX12_keep_26 (by decide) (fun c39 => ?_) (fun c39 => ?_)
        · have h := h.1 c39
          exact b51 S37 H locs ls hl G h
        · have h := h.2 c39
          exact b29 S37 H locs ls hl G h
def B_X12_make_58 (V : Vt) (o : Nat) (x1 : Int) (x2 : Int) (x3 : Int) (Q : Int → Me → Prop) : Nat → (Int → Me → Prop)
  | 0 => fun _ _ => False
  | n + 1 => fun y4 S => ((x3 ≤ y4 → Q 0 S) ∧ (¬ x3 ≤ y4 → (rng (60 * x1)) ∧ (rng ((60 * x1) + y4)) ∧ (0 ≤ ((60 * x1) + y4) ∧ ((60 * x1) + y4) < 480) ∧ ∀ S5 : Me, S5 = sI S (o + 28) (Int.toNat ((60 * x1) + y4)) 0 → (rng (y4 + 1)) ∧ B_X12_make_58 V o x1 x2 x3 Q n (y4 + 1) S5))
def PT_X12_make (V : Vt) (o : Nat) (x1 : Int) (x2 : Int) (x3 : Int) (S : Me) (Q : Int → Me → Prop) : Prop := ∀ S7 : Me, S7 = sI S o 0 0 → PT_X12_isShelf V x1 S7 (fun t9 S8 => ((t9 = 0 → Q (-1) S8) ∧ (¬ t9 = 0 → (((isin x2 3 4) = 0 → Q (-1) S8) ∧ (¬ (isin x2 3 4) = 0 → ((x3 ≤ 60 → ((0 ≤ x3 → (0 ≤ x1 ∧ x1 < 8) ∧ ∀ S15 : Me, S15 = sI S8 (o + 25) (Int.toNat x1) x2 → (0 ≤ x1 ∧ x1 < 8) ∧ ∀ S17 : Me, S17 = sI S15 (o + 26) (Int.toNat x1) x3 → (∃ n9 : Nat, B_X12_make_58 V o x1 x2 x3 Q n9 0 S17)) ∧ (¬ 0 ≤ x3 → Q (-14) S8))) ∧ (¬ x3 ≤ 60 → Q (-1) S8)))))))
theorem hd_X12_make : yX12_make.cls ≠ "java/lang/invoke/MethodHandle" ∧ yX12_make.cls ≠ "java/lang/invoke/VarHandle" ∧ (parseMethodDescriptor yX12_make.desc).map (fun d => d.parameters.length) = some 3 := by decide +kernel
set_option maxHeartbeats 4000000 in
set_option maxRecDepth 100000 in
theorem c_X12_make (l : Launch) (D : va_G) (cy : ClassId × ClassId × ClassId × ClassId) (ad : Nat → Nat) {V : Vt} {S : Me} {o : Nat} {x1 : Int} {x2 : Int} {x3 : Int} (hV : fX12 V o) (rx1 : rng x1) (rx2 : rng x2) (rx3 : rng x3) {Q : Int → Me → Prop} (h : PT_X12_make V o x1 x2 x3 S Q) : KM l D cy yX12_make cX12_make 5 (Option.some Jvm.ClassFile.FieldType.int) 1 25 ad V S [.inr (some o), .inl x1, .inl x2, .inl x3] (qI Q) := by
  refine KM.of (by decide) rfl (Nat.le_of_ble_eq_true rfl) (own := RX12) (fun p e s m args below meth c A ls H locs eA C hret hml hmn hl G => ?_)
  have hl : lo ad ls [some (.inr (some o)), some (.inl x1), some (.inl x2), some (.inl x3), none] := hl
  have b58 : ∀ (n : Nat) (y4 : Int) (S : Me) (H : Heap) (locs : List Loc) (ls : Array Slot), rng y4 → lo ad ls [some (.inr (some o)), some (.inl x1), some (.inl x2), some (.inl x3), some (.inl y4)] → Gy D cy A s.heap ad V S H locs → B_X12_make_58 V o x1 x2 x3 Q n y4 S → W p l e (rmx 1 25) s m args below meth c H locs 0 0 (qm below D cy ad V A args s (qI Q)) (F0 m 58 ls []) := by
    intro n
    induction n with
    | zero =>
      intro y4 S H locs ls ry4 hl G h
      exact absurd h id
    | succ n ih =>
      intro y4 S H locs ls ry4 hl G h
      rw [B_X12_make_58] at h
      refine gx_iload C hl dX12_make_58 rfl ?_
      refine gx_iload_n C hl dX12_make_60 rfl ?_
      refine gx_icmp_ge (tgt := 83) C ry4 rx3 dX12_make_61 (by decide) (fun c1 => ?_) (fun c1 => ?_)
      · have h := h.1 c1
        refine gx_iconst C dX12_make_83 ?_
        exact gx_iret C G hret (show rng 0 by decide) h dX12_make_84
      · have h := h.2 c1
        refine gx_aload_n C hl dX12_make_64 rfl ?_
        refine gx_getF C G rfl (fX12_o hV) (fo11_48 (fX12_c hV)) (fX12_shelfRow hV) uw_1003 (fun _ h9 => h9) dX12_make_65 ?_
        refine gx_bipush C dX12_make_68 (by decide) ?_
        refine gx_iload_n C hl dX12_make_70 rfl ?_
        obtain ⟨h2, h⟩ := h
        refine gx_imul C dX12_make_71 ?_
        refine gx_iload C hl dX12_make_72 rfl ?_
        obtain ⟨h3, h⟩ := h
        refine gx_iadd C dX12_make_74 ?_
        refine gx_iconst C dX12_make_75 ?_
        obtain ⟨h4, h⟩ := h
        refine gx_iast C G rfl (fX12_shelfRow_l hV) (fX12_shelfRow_t hV) h3 (show rng 0 by decide) h4.1 (ixl (fX12_shelfRow_n hV) h4.2) dX12_make_76 (fun H locs G => ?_)
        obtain ⟨S5, eS5⟩ : ∃ q9 : Me, q9 = sI S (o + 28) (Int.toNat ((60 * x1) + y4)) 0 := ⟨_, rfl⟩
        have h := h S5 eS5
        rw [← eS5] at G
        obtain ⟨h6, h⟩ := h
        refine gx_iinc C hl dX12_make_77 rfl (PL' := [some (.inr (some o)), some (.inl x1), some (.inl x2), some (.inl x3), some (.inl (y4 + 1))]) rfl (fun ls hl => ?_)
        refine gx_goto (tgt := 58) C dX12_make_80 (by decide) ?_
        exact ih (y4 + 1) S5 H locs ls h6 hl G h
  clear eA
  unfold PT_X12_make at h
  refine gx_aload_n C hl dX12_make_0 rfl ?_
  refine gx_iconst C dX12_make_1 ?_
  refine gx_putI C G rfl (fX12_o hV) (fo11_0 (fX12_c hV)) (show rng 0 by decide) uw_955 (fun _ h9 => h9) dX12_make_2 (fun H locs G => ?_)
  obtain ⟨S7, eS7⟩ : ∃ q9 : Me, q9 = sI S o 0 0 := ⟨_, rfl⟩
  have h := h S7 eS7
  rw [← eS7] at G
  refine gx_iload_n C hl dX12_make_5 rfl ?_
  refine gx_callS C G hl hml (c_X12_isShelf l D cy ad rx1 h) uw_1342 uw_1340 uw_1341 uw_9 hd_X12_isShelf ⟨Nat.le_of_ble_eq_true rfl, Nat.le_of_ble_eq_true rfl⟩ ⟨Nat.zero_le _, Nat.zero_le _⟩ rfl rfl (hw_le ad [] rfl (Nat.le_of_ble_eq_true rfl)) dX12_make_6 (kkI (fun t9 S8 H locs rt9 h G => ?_))
  refine gx_if_eq (tgt := 32) C rt9 dX12_make_9 (by decide) (fun c10 => ?_) (fun c10 => ?_)
  · have h := h.1 c10
    refine gx_iconst C dX12_make_32 ?_
    exact gx_iret C G hret (show rng (-1) by decide) h dX12_make_33
  · have h := h.2 c10
    refine gx_iload_n C hl dX12_make_12 rfl ?_
    refine gx_i2l C rx2 dX12_make_13 ?_
    refine gx_ldc2 (n := 3) C uw_1138 dX12_make_14 ?_
    refine gx_ldc2 (n := 4) C uw_1289 dX12_make_17 ?_
    refine gx_isIn C G hl hml rx2 (show rng 3 by decide) (show rng 4 by decide) uw_1115 ⟨Nat.le_of_ble_eq_true rfl, Nat.le_of_ble_eq_true rfl⟩ ⟨Nat.zero_le _, Nat.zero_le _⟩ (hw_le ad [] rfl (Nat.le_of_ble_eq_true rfl)) dX12_make_20 ?_
    refine gx_if_eq (tgt := 32) C (isin_r _ _ _) dX12_make_23 (by decide) (fun c11 => ?_) (fun c11 => ?_)
    · have h := h.1 c11
      refine gx_iconst C dX12_make_32 ?_
      exact gx_iret C G hret (show rng (-1) by decide) h dX12_make_33
    · have h := h.2 c11
      refine gx_iload_n C hl dX12_make_26 rfl ?_
      refine gx_bipush C dX12_make_27 (by decide) ?_
      refine gx_icmp_le (tgt := 34) C rx3 (show rng 60 by decide) dX12_make_29 (by decide) (fun c12 => ?_) (fun c12 => ?_)
      · have h := h.1 c12
        refine gx_iload_n C hl dX12_make_34 rfl ?_
        refine gx_if_ge (tgt := 41) C rx3 dX12_make_35 (by decide) (fun c13 => ?_) (fun c13 => ?_)
        · have h := h.1 c13
          refine gx_aload_n C hl dX12_make_41 rfl ?_
          refine gx_getF C G rfl (fX12_o hV) (fo11_45 (fX12_c hV)) (fX12_shelf hV) uw_1000 (fun _ h9 => h9) dX12_make_42 ?_
          refine gx_iload_n C hl dX12_make_45 rfl ?_
          refine gx_iload_n C hl dX12_make_46 rfl ?_
          obtain ⟨h14, h⟩ := h
          refine gx_iast C G rfl (fX12_shelf_l hV) (fX12_shelf_t hV) rx1 rx2 h14.1 (ixl (fX12_shelf_n hV) h14.2) dX12_make_47 (fun H locs G => ?_)
          obtain ⟨S15, eS15⟩ : ∃ q9 : Me, q9 = sI S8 (o + 25) (Int.toNat x1) x2 := ⟨_, rfl⟩
          have h := h S15 eS15
          rw [← eS15] at G
          refine gx_aload_n C hl dX12_make_48 rfl ?_
          refine gx_getF C G rfl (fX12_o hV) (fo11_46 (fX12_c hV)) (fX12_shelfSize hV) uw_1001 (fun _ h9 => h9) dX12_make_49 ?_
          refine gx_iload_n C hl dX12_make_52 rfl ?_
          refine gx_iload_n C hl dX12_make_53 rfl ?_
          obtain ⟨h16, h⟩ := h
          refine gx_iast C G rfl (fX12_shelfSize_l hV) (fX12_shelfSize_t hV) rx1 rx3 h16.1 (ixl (fX12_shelfSize_n hV) h16.2) dX12_make_54 (fun H locs G => ?_)
          obtain ⟨S17, eS17⟩ : ∃ q9 : Me, q9 = sI S15 (o + 26) (Int.toNat x1) x3 := ⟨_, rfl⟩
          have h := h S17 eS17
          rw [← eS17] at G
          refine gx_iconst C dX12_make_55 ?_
          refine gx_istore C hl dX12_make_56 (Nat.le_of_ble_eq_true rfl) (PL' := [some (.inr (some o)), some (.inl x1), some (.inl x2), some (.inl x3), some (.inl 0)]) rfl (fun ls hl => ?_)
          obtain ⟨n9, h⟩ := h
          exact b58 n9 0 S17 H locs ls (show rng 0 by decide) hl G h
        · have h := h.2 c13
          refine gx_bipush C dX12_make_38 (by decide) ?_
          exact gx_iret C G hret (show rng (-14) by decide) h dX12_make_40
      · have h := h.2 c12
        refine gx_iconst C dX12_make_32 ?_
        exact gx_iret C G hret (show rng (-1) by decide) h dX12_make_33
def PT_X12_hasPlaces (V : Vt) (o : Nat) (x1 : Int) (x2 : Int) (x3 : Int) (S : Me) (Q : Int → Me → Prop) : Prop := ((x3 < 0 → Q 0 S) ∧ (¬ x3 < 0 → ((x2 < 0 → Q 0 S) ∧ (¬ x2 < 0 → (0 ≤ x1 ∧ x1 < 8) ∧ (((S.1 (o + 26) (Int.toNat x1)) < x2 → Q 0 S) ∧ (¬ (S.1 (o + 26) (Int.toNat x1)) < x2 → (0 ≤ x1 ∧ x1 < 8) ∧ (rng ((S.1 (o + 26) (Int.toNat x1)) - x2)) ∧ ((((S.1 (o + 26) (Int.toNat x1)) - x2) < x3 → Q 0 S) ∧ (¬ ((S.1 (o + 26) (Int.toNat x1)) - x2) < x3 → Q 1 S))))))))
theorem hd_X12_hasPlaces : yX12_hasPlaces.cls ≠ "java/lang/invoke/MethodHandle" ∧ yX12_hasPlaces.cls ≠ "java/lang/invoke/VarHandle" ∧ (parseMethodDescriptor yX12_hasPlaces.desc).map (fun d => d.parameters.length) = some 3 := by decide +kernel
set_option maxHeartbeats 4000000 in
set_option maxRecDepth 100000 in
theorem c_X12_hasPlaces (l : Launch) (D : va_G) (cy : ClassId × ClassId × ClassId × ClassId) (ad : Nat → Nat) {V : Vt} {S : Me} {o : Nat} {x1 : Int} {x2 : Int} {x3 : Int} (hV : fX12 V o) (rx1 : rng x1) (rx2 : rng x2) (rx3 : rng x3) {Q : Int → Me → Prop} (h : PT_X12_hasPlaces V o x1 x2 x3 S Q) : KM l D cy yX12_hasPlaces cX12_hasPlaces 4 (Option.some Jvm.ClassFile.FieldType.boolean) 0 0 ad V S [.inr (some o), .inl x1, .inl x2, .inl x3] (qI Q) := by
  refine KM.of (by decide) rfl (Nat.le_of_ble_eq_true rfl) (own := RX12) (fun p e s m args below meth c A ls H locs eA C hret hml hmn hl G => ?_)
  have hl : lo ad ls [some (.inr (some o)), some (.inl x1), some (.inl x2), some (.inl x3)] := hl
  clear eA
  unfold PT_X12_hasPlaces at h
  refine gx_iload_n C hl dX12_hasPlaces_0 rfl ?_
  refine gx_if_lt (tgt := 34) C rx3 dX12_hasPlaces_1 (by decide) (fun c1 => ?_) (fun c1 => ?_)
  · have h := h.1 c1
    refine gx_iconst C dX12_hasPlaces_34 ?_
    exact gx_zret C G hret (Or.inl rfl) h dX12_hasPlaces_35
  · have h := h.2 c1
    refine gx_iload_n C hl dX12_hasPlaces_4 rfl ?_
    refine gx_if_lt (tgt := 34) C rx2 dX12_hasPlaces_5 (by decide) (fun c2 => ?_) (fun c2 => ?_)
    · have h := h.1 c2
      refine gx_iconst C dX12_hasPlaces_34 ?_
      exact gx_zret C G hret (Or.inl rfl) h dX12_hasPlaces_35
    · have h := h.2 c2
      refine gx_iload_n C hl dX12_hasPlaces_8 rfl ?_
      refine gx_aload_n C hl dX12_hasPlaces_9 rfl ?_
      refine gx_getF C G rfl (fX12_o hV) (fo11_46 (fX12_c hV)) (fX12_shelfSize hV) uw_1001 (fun _ h9 => h9) dX12_hasPlaces_10 ?_
      refine gx_iload_n C hl dX12_hasPlaces_13 rfl ?_
      obtain ⟨h3, h⟩ := h
      refine gx_iald C G rfl (fX12_shelfSize_l hV) (fX12_shelfSize_t hV) rx1 h3.1 (ixl (fX12_shelfSize_n hV) h3.2) dX12_hasPlaces_14 ?_
      have r4 := G.r (o + 26) (Int.toNat x1)
      refine gx_icmp_gt (tgt := 34) C rx2 r4 dX12_hasPlaces_15 (by decide) (fun c5 => ?_) (fun c5 => ?_)
      · have h := h.1 c5
        refine gx_iconst C dX12_hasPlaces_34 ?_
        exact gx_zret C G hret (Or.inl rfl) h dX12_hasPlaces_35
      · have h := h.2 c5
        refine gx_iload_n C hl dX12_hasPlaces_18 rfl ?_
        refine gx_aload_n C hl dX12_hasPlaces_19 rfl ?_
        refine gx_getF C G rfl (fX12_o hV) (fo11_46 (fX12_c hV)) (fX12_shelfSize hV) uw_1001 (fun _ h9 => h9) dX12_hasPlaces_20 ?_
        refine gx_iload_n C hl dX12_hasPlaces_23 rfl ?_
        obtain ⟨h6, h⟩ := h
        refine gx_iald C G rfl (fX12_shelfSize_l hV) (fX12_shelfSize_t hV) rx1 h6.1 (ixl (fX12_shelfSize_n hV) h6.2) dX12_hasPlaces_24 ?_
        have r7 := G.r (o + 26) (Int.toNat x1)
        refine gx_iload_n C hl dX12_hasPlaces_25 rfl ?_
        obtain ⟨h8, h⟩ := h
        refine gx_isub C dX12_hasPlaces_26 ?_
        refine gx_icmp_gt (tgt := 34) C rx3 h8 dX12_hasPlaces_27 (by decide) (fun c9 => ?_) (fun c9 => ?_)
        · have h := h.1 c9
          refine gx_iconst C dX12_hasPlaces_34 ?_
          exact gx_zret C G hret (Or.inl rfl) h dX12_hasPlaces_35
        · have h := h.2 c9
          refine gx_iconst C dX12_hasPlaces_30 ?_
          refine gx_goto (tgt := 35) C dX12_hasPlaces_31 (by decide) ?_
          exact gx_zret C G hret (Or.inr rfl) h dX12_hasPlaces_35
def B_X12_copy_39 (V : Vt) (o : Nat) (x1 : Int) (x2 : Int) (x3 : Int) (x4 : Int) (x5 : Int) (S : Me) (Q : Int → Me → Prop) : Prop := Q (-11) S
def B_X12_copy_67 (V : Vt) (o : Nat) (x1 : Int) (x2 : Int) (x3 : Int) (x4 : Int) (x5 : Int) (S : Me) (Q : Int → Me → Prop) : Prop := Q (-12) S
def B_X12_copy_93 (V : Vt) (o : Nat) (x1 : Int) (x2 : Int) (x3 : Int) (x4 : Int) (x5 : Int) (S : Me) (Q : Int → Me → Prop) : Prop := Q (-13) S
def B_X12_copy_136 (V : Vt) (o : Nat) (x1 : Int) (x2 : Int) (x3 : Int) (x4 : Int) (x5 : Int) (Q : Int → Me → Prop) : Nat → (Int → Me → Prop)
  | 0 => fun _ _ => False
  | n + 1 => fun y6 S => ((x5 ≤ y6 → Q x5 S) ∧ (¬ x5 ≤ y6 → (rng (60 * x3)) ∧ (rng ((60 * x3) + x4)) ∧ (rng (((60 * x3) + x4) + y6)) ∧ (0 ≤ y6 ∧ y6 < 60) ∧ (0 ≤ (((60 * x3) + x4) + y6) ∧ (((60 * x3) + x4) + y6) < 480) ∧ ∀ S8 : Me, S8 = sI S (o + 28) (Int.toNat (((60 * x3) + x4) + y6)) (S.1 (o + 29) (Int.toNat y6)) → (rng (y6 + 1)) ∧ B_X12_copy_136 V o x1 x2 x3 x4 x5 Q n (y6 + 1) S8))
def B_X12_copy_99 (V : Vt) (o : Nat) (x1 : Int) (x2 : Int) (x3 : Int) (x4 : Int) (x5 : Int) (Q : Int → Me → Prop) : Nat → (Int → Me → Prop)
  | 0 => fun _ _ => False
  | n + 1 => fun y6 S => ((x5 ≤ y6 → (∃ n9 : Nat, B_X12_copy_136 V o x1 x2 x3 x4 x5 Q n9 0 S)) ∧ (¬ x5 ≤ y6 → (rng (60 * x1)) ∧ (rng ((60 * x1) + x2)) ∧ (rng (((60 * x1) + x2) + y6)) ∧ (0 ≤ (((60 * x1) + x2) + y6) ∧ (((60 * x1) + x2) + y6) < 480) ∧ (0 ≤ y6 ∧ y6 < 60) ∧ ∀ S17 : Me, S17 = sI S (o + 29) (Int.toNat y6) (S.1 (o + 28) (Int.toNat (((60 * x1) + x2) + y6))) → (rng (y6 + 1)) ∧ B_X12_copy_99 V o x1 x2 x3 x4 x5 Q n (y6 + 1) S17))
def PT_X12_copy (V : Vt) (o : Nat) (x1 : Int) (x2 : Int) (x3 : Int) (x4 : Int) (x5 : Int) (S : Me) (Q : Int → Me → Prop) : Prop := ∀ S19 : Me, S19 = sI S o 0 0 → PT_X12_isShelf V x1 S19 (fun t21 S20 => ((t21 = 0 → Q (-1) S20) ∧ (¬ t21 = 0 → PT_X12_isShelf V x3 S20 (fun t24 S23 => ((¬ t24 = 0 → (0 ≤ x1 ∧ x1 < 8) ∧ (((S23.1 (o + 25) (Int.toNat x1)) = 0 → B_X12_copy_39 V o x1 x2 x3 x4 x5 S23 Q) ∧ (¬ (S23.1 (o + 25) (Int.toNat x1)) = 0 → (0 ≤ x3 ∧ x3 < 8) ∧ ((¬ (S23.1 (o + 25) (Int.toNat x3)) = 0 → (0 ≤ x1 ∧ x1 < 8) ∧ (((S23.1 (o + 25) (Int.toNat x1)) < 3 → B_X12_copy_67 V o x1 x2 x3 x4 x5 S23 Q) ∧ (¬ (S23.1 (o + 25) (Int.toNat x1)) < 3 → (0 ≤ x1 ∧ x1 < 8) ∧ (0 ≤ x3 ∧ x3 < 8) ∧ (((S23.1 (o + 25) (Int.toNat x1)) = (S23.1 (o + 25) (Int.toNat x3)) → PT_X12_hasPlaces V o x1 x2 x5 S23 (fun t41 S40 => ((t41 = 0 → B_X12_copy_93 V o x1 x2 x3 x4 x5 S40 Q) ∧ (¬ t41 = 0 → PT_X12_hasPlaces V o x3 x4 x5 S40 (fun t44 S43 => ((¬ t44 = 0 → (∃ n9 : Nat, B_X12_copy_99 V o x1 x2 x3 x4 x5 Q n9 0 S43)) ∧ (t44 = 0 → B_X12_copy_93 V o x1 x2 x3 x4 x5 S43 Q))))))) ∧ (¬ (S23.1 (o + 25) (Int.toNat x1)) = (S23.1 (o + 25) (Int.toNat x3)) → B_X12_copy_67 V o x1 x2 x3 x4 x5 S23 Q))))) ∧ ((S23.1 (o + 25) (Int.toNat x3)) = 0 → B_X12_copy_39 V o x1 x2 x3 x4 x5 S23 Q))))) ∧ (t24 = 0 → Q (-1) S23))))))
theorem hd_X12_copy : yX12_copy.cls ≠ "java/lang/invoke/MethodHandle" ∧ yX12_copy.cls ≠ "java/lang/invoke/VarHandle" ∧ (parseMethodDescriptor yX12_copy.desc).map (fun d => d.parameters.length) = some 5 := by decide +kernel
set_option maxHeartbeats 4000000 in
set_option maxRecDepth 100000 in
theorem c_X12_copy (l : Launch) (D : va_G) (cy : ClassId × ClassId × ClassId × ClassId) (ad : Nat → Nat) {V : Vt} {S : Me} {o : Nat} {x1 : Int} {x2 : Int} {x3 : Int} {x4 : Int} {x5 : Int} (hV : fX12 V o) (rx1 : rng x1) (rx2 : rng x2) (rx3 : rng x3) (rx4 : rng x4) (rx5 : rng x5) {Q : Int → Me → Prop} (h : PT_X12_copy V o x1 x2 x3 x4 x5 S Q) : KM l D cy yX12_copy cX12_copy 7 (Option.some Jvm.ClassFile.FieldType.int) 1 23 ad V S [.inr (some o), .inl x1, .inl x2, .inl x3, .inl x4, .inl x5] (qI Q) := by
  refine KM.of (by decide) rfl (Nat.le_of_ble_eq_true rfl) (own := RX12) (fun p e s m args below meth c A ls H locs eA C hret hml hmn hl G => ?_)
  have hl : lo ad ls [some (.inr (some o)), some (.inl x1), some (.inl x2), some (.inl x3), some (.inl x4), some (.inl x5), none] := hl
  have b39 : ∀ (S : Me) (H : Heap) (locs : List Loc) (ls : Array Slot), lo ad ls [some (.inr (some o)), some (.inl x1), some (.inl x2), some (.inl x3), some (.inl x4), some (.inl x5), none] → Gy D cy A s.heap ad V S H locs → B_X12_copy_39 V o x1 x2 x3 x4 x5 S Q → W p l e (rmx 1 23) s m args below meth c H locs 0 0 (qm below D cy ad V A args s (qI Q)) (F0 m 39 ls []) := by
    intro S H locs ls hl G h
    unfold B_X12_copy_39 at h
    refine gx_bipush C dX12_copy_39 (by decide) ?_
    exact gx_iret C G hret (show rng (-11) by decide) h dX12_copy_41
  have b67 : ∀ (S : Me) (H : Heap) (locs : List Loc) (ls : Array Slot), lo ad ls [some (.inr (some o)), some (.inl x1), some (.inl x2), some (.inl x3), some (.inl x4), some (.inl x5), none] → Gy D cy A s.heap ad V S H locs → B_X12_copy_67 V o x1 x2 x3 x4 x5 S Q → W p l e (rmx 1 23) s m args below meth c H locs 0 0 (qm below D cy ad V A args s (qI Q)) (F0 m 67 ls []) := by
    intro S H locs ls hl G h
    unfold B_X12_copy_67 at h
    refine gx_bipush C dX12_copy_67 (by decide) ?_
    exact gx_iret C G hret (show rng (-12) by decide) h dX12_copy_69
  have b93 : ∀ (S : Me) (H : Heap) (locs : List Loc) (ls : Array Slot), lo ad ls [some (.inr (some o)), some (.inl x1), some (.inl x2), some (.inl x3), some (.inl x4), some (.inl x5), none] → Gy D cy A s.heap ad V S H locs → B_X12_copy_93 V o x1 x2 x3 x4 x5 S Q → W p l e (rmx 1 23) s m args below meth c H locs 0 0 (qm below D cy ad V A args s (qI Q)) (F0 m 93 ls []) := by
    intro S H locs ls hl G h
    unfold B_X12_copy_93 at h
    refine gx_bipush C dX12_copy_93 (by decide) ?_
    exact gx_iret C G hret (show rng (-13) by decide) h dX12_copy_95
  have b136 : ∀ (n : Nat) (y6 : Int) (S : Me) (H : Heap) (locs : List Loc) (ls : Array Slot), rng y6 → lo ad ls [some (.inr (some o)), some (.inl x1), some (.inl x2), some (.inl x3), some (.inl x4), some (.inl x5), some (.inl y6)] → Gy D cy A s.heap ad V S H locs → B_X12_copy_136 V o x1 x2 x3 x4 x5 Q n y6 S → W p l e (rmx 1 23) s m args below meth c H locs 0 0 (qm below D cy ad V A args s (qI Q)) (F0 m 136 ls []) := by
    intro n
    induction n with
    | zero =>
      intro y6 S H locs ls ry6 hl G h
      exact absurd h id
    | succ n ih =>
      intro y6 S H locs ls ry6 hl G h
      rw [B_X12_copy_136] at h
      refine gx_iload C hl dX12_copy_136 rfl ?_
      refine gx_iload C hl dX12_copy_138 rfl ?_
      refine gx_icmp_ge (tgt := 171) C ry6 rx5 dX12_copy_140 (by decide) (fun c1 => ?_) (fun c1 => ?_)
      · have h := h.1 c1
        refine gx_iload C hl dX12_copy_171 rfl ?_
        exact gx_iret C G hret rx5 h dX12_copy_173
      · have h := h.2 c1
        refine gx_aload_n C hl dX12_copy_143 rfl ?_
        refine gx_getF C G rfl (fX12_o hV) (fo11_48 (fX12_c hV)) (fX12_shelfRow hV) uw_1003 (fun _ h9 => h9) dX12_copy_144 ?_
        refine gx_bipush C dX12_copy_147 (by decide) ?_
        refine gx_iload_n C hl dX12_copy_149 rfl ?_
        obtain ⟨h2, h⟩ := h
        refine gx_imul C dX12_copy_150 ?_
        refine gx_iload C hl dX12_copy_151 rfl ?_
        obtain ⟨h3, h⟩ := h
        refine gx_iadd C dX12_copy_153 ?_
        refine gx_iload C hl dX12_copy_154 rfl ?_
        obtain ⟨h4, h⟩ := h
        refine gx_iadd C dX12_copy_156 ?_
        refine gx_aload_n C hl dX12_copy_157 rfl ?_
        refine gx_getF C G rfl (fX12_o hV) (fo11_49 (fX12_c hV)) (fX12_between hV) uw_1004 (fun _ h9 => h9) dX12_copy_158 ?_
        refine gx_iload C hl dX12_copy_161 rfl ?_
        obtain ⟨h5, h⟩ := h
        refine gx_iald C G rfl (fX12_between_l hV) (fX12_between_t hV) ry6 h5.1 (ixl (fX12_between_n hV) h5.2) dX12_copy_163 ?_
        have r6 := G.r (o + 29) (Int.toNat y6)
        obtain ⟨h7, h⟩ := h
        refine gx_iast C G rfl (fX12_shelfRow_l hV) (fX12_shelfRow_t hV) h4 r6 h7.1 (ixl (fX12_shelfRow_n hV) h7.2) dX12_copy_164 (fun H locs G => ?_)
        obtain ⟨S8, eS8⟩ : ∃ q9 : Me, q9 = sI S (o + 28) (Int.toNat (((60 * x3) + x4) + y6)) (S.1 (o + 29) (Int.toNat y6)) := ⟨_, rfl⟩
        have h := h S8 eS8
        rw [← eS8] at G
        obtain ⟨h9, h⟩ := h
        refine gx_iinc C hl dX12_copy_165 rfl (PL' := [some (.inr (some o)), some (.inl x1), some (.inl x2), some (.inl x3), some (.inl x4), some (.inl x5), some (.inl (y6 + 1))]) rfl (fun ls hl => ?_)
        refine gx_goto (tgt := 136) C dX12_copy_168 (by decide) ?_
        exact ih (y6 + 1) S8 H locs ls h9 hl G h
  have b99 : ∀ (n : Nat) (y6 : Int) (S : Me) (H : Heap) (locs : List Loc) (ls : Array Slot), rng y6 → lo ad ls [some (.inr (some o)), some (.inl x1), some (.inl x2), some (.inl x3), some (.inl x4), some (.inl x5), some (.inl y6)] → Gy D cy A s.heap ad V S H locs → B_X12_copy_99 V o x1 x2 x3 x4 x5 Q n y6 S → W p l e (rmx 1 23) s m args below meth c H locs 0 0 (qm below D cy ad V A args s (qI Q)) (F0 m 99 ls []) := by
    intro n
    induction n with
    | zero =>
      intro y6 S H locs ls ry6 hl G h
      exact absurd h id
    | succ n ih =>
      intro y6 S H locs ls ry6 hl G h
      rw [B_X12_copy_99] at h
      refine gx_iload C hl dX12_copy_99 rfl ?_
      refine gx_iload C hl dX12_copy_101 rfl ?_
      refine gx_icmp_ge (tgt := 133) C ry6 rx5 dX12_copy_103 (by decide) (fun c10 => ?_) (fun c10 => ?_)
      · have h := h.1 c10
        refine gx_iconst C dX12_copy_133 ?_
        refine gx_istore C hl dX12_copy_134 (Nat.le_of_ble_eq_true rfl) (PL' := [some (.inr (some o)), some (.inl x1), some (.inl x2), some (.inl x3), some (.inl x4), some (.inl x5), some (.inl 0)]) rfl (fun ls hl => ?_)
        obtain ⟨n9, h⟩ := h
        exact b136 n9 0 S H locs ls (show rng 0 by decide) hl G h
      · have h := h.2 c10
        refine gx_aload_n C hl dX12_copy_106 rfl ?_
        refine gx_getF C G rfl (fX12_o hV) (fo11_49 (fX12_c hV)) (fX12_between hV) uw_1004 (fun _ h9 => h9) dX12_copy_107 ?_
        refine gx_iload C hl dX12_copy_110 rfl ?_
        refine gx_aload_n C hl dX12_copy_112 rfl ?_
        refine gx_getF C G rfl (fX12_o hV) (fo11_48 (fX12_c hV)) (fX12_shelfRow hV) uw_1003 (fun _ h9 => h9) dX12_copy_113 ?_
        refine gx_bipush C dX12_copy_116 (by decide) ?_
        refine gx_iload_n C hl dX12_copy_118 rfl ?_
        obtain ⟨h11, h⟩ := h
        refine gx_imul C dX12_copy_119 ?_
        refine gx_iload_n C hl dX12_copy_120 rfl ?_
        obtain ⟨h12, h⟩ := h
        refine gx_iadd C dX12_copy_121 ?_
        refine gx_iload C hl dX12_copy_122 rfl ?_
        obtain ⟨h13, h⟩ := h
        refine gx_iadd C dX12_copy_124 ?_
        obtain ⟨h14, h⟩ := h
        refine gx_iald C G rfl (fX12_shelfRow_l hV) (fX12_shelfRow_t hV) h13 h14.1 (ixl (fX12_shelfRow_n hV) h14.2) dX12_copy_125 ?_
        have r15 := G.r (o + 28) (Int.toNat (((60 * x1) + x2) + y6))
        obtain ⟨h16, h⟩ := h
        refine gx_iast C G rfl (fX12_between_l hV) (fX12_between_t hV) ry6 r15 h16.1 (ixl (fX12_between_n hV) h16.2) dX12_copy_126 (fun H locs G => ?_)
        obtain ⟨S17, eS17⟩ : ∃ q9 : Me, q9 = sI S (o + 29) (Int.toNat y6) (S.1 (o + 28) (Int.toNat (((60 * x1) + x2) + y6))) := ⟨_, rfl⟩
        have h := h S17 eS17
        rw [← eS17] at G
        obtain ⟨h18, h⟩ := h
        refine gx_iinc C hl dX12_copy_127 rfl (PL' := [some (.inr (some o)), some (.inl x1), some (.inl x2), some (.inl x3), some (.inl x4), some (.inl x5), some (.inl (y6 + 1))]) rfl (fun ls hl => ?_)
        refine gx_goto (tgt := 99) C dX12_copy_130 (by decide) ?_
        exact ih (y6 + 1) S17 H locs ls h18 hl G h
  clear eA
  unfold PT_X12_copy at h
  refine gx_aload_n C hl dX12_copy_0 rfl ?_
  refine gx_iconst C dX12_copy_1 ?_
  refine gx_putI C G rfl (fX12_o hV) (fo11_0 (fX12_c hV)) (show rng 0 by decide) uw_955 (fun _ h9 => h9) dX12_copy_2 (fun H locs G => ?_)
  obtain ⟨S19, eS19⟩ : ∃ q9 : Me, q9 = sI S o 0 0 := ⟨_, rfl⟩
  have h := h S19 eS19
  rw [← eS19] at G
  refine gx_iload_n C hl dX12_copy_5 rfl ?_
  refine gx_callS C G hl hml (c_X12_isShelf l D cy ad rx1 h) uw_1342 uw_1340 uw_1341 uw_9 hd_X12_isShelf ⟨Nat.le_of_ble_eq_true rfl, Nat.le_of_ble_eq_true rfl⟩ ⟨Nat.zero_le _, Nat.zero_le _⟩ rfl rfl (hw_le ad [] rfl (Nat.le_of_ble_eq_true rfl)) dX12_copy_6 (kkI (fun t21 S20 H locs rt21 h G => ?_))
  refine gx_if_eq (tgt := 19) C rt21 dX12_copy_9 (by decide) (fun c22 => ?_) (fun c22 => ?_)
  · have h := h.1 c22
    refine gx_iconst C dX12_copy_19 ?_
    exact gx_iret C G hret (show rng (-1) by decide) h dX12_copy_20
  · have h := h.2 c22
    refine gx_iload_n C hl dX12_copy_12 rfl ?_
    refine gx_callS C G hl hml (c_X12_isShelf l D cy ad rx3 h) uw_1342 uw_1340 uw_1341 uw_9 hd_X12_isShelf ⟨Nat.le_of_ble_eq_true rfl, Nat.le_of_ble_eq_true rfl⟩ ⟨Nat.zero_le _, Nat.zero_le _⟩ rfl rfl (hw_le ad [] rfl (Nat.le_of_ble_eq_true rfl)) dX12_copy_13 (kkI (fun t24 S23 H locs rt24 h G => ?_))
    refine gx_if_ne (tgt := 21) C rt24 dX12_copy_16 (by decide) (fun c25 => ?_) (fun c25 => ?_)
    · have h := h.1 c25
      refine gx_aload_n C hl dX12_copy_21 rfl ?_
      refine gx_getF C G rfl (fX12_o hV) (fo11_45 (fX12_c hV)) (fX12_shelf hV) uw_1000 (fun _ h9 => h9) dX12_copy_22 ?_
      refine gx_iload_n C hl dX12_copy_25 rfl ?_
      obtain ⟨h26, h⟩ := h
      refine gx_iald C G rfl (fX12_shelf_l hV) (fX12_shelf_t hV) rx1 h26.1 (ixl (fX12_shelf_n hV) h26.2) dX12_copy_26 ?_
      have r27 := G.r (o + 25) (Int.toNat x1)
      refine gx_if_eq (tgt := 39) C r27 dX12_copy_27 (by decide) (fun c28 => ?_) (fun c28 => ?_)
      · have h := h.1 c28
        exact b39 S23 H locs ls hl G h
      · have h := h.2 c28
        refine gx_aload_n C hl dX12_copy_30 rfl ?_
        refine gx_getF C G rfl (fX12_o hV) (fo11_45 (fX12_c hV)) (fX12_shelf hV) uw_1000 (fun _ h9 => h9) dX12_copy_31 ?_
        refine gx_iload_n C hl dX12_copy_34 rfl ?_
        obtain ⟨h29, h⟩ := h
        refine gx_iald C G rfl (fX12_shelf_l hV) (fX12_shelf_t hV) rx3 h29.1 (ixl (fX12_shelf_n hV) h29.2) dX12_copy_35 ?_
        have r30 := G.r (o + 25) (Int.toNat x3)
        refine gx_if_ne (tgt := 42) C r30 dX12_copy_36 (by decide) (fun c31 => ?_) (fun c31 => ?_)
        · have h := h.1 c31
          refine gx_aload_n C hl dX12_copy_42 rfl ?_
          refine gx_getF C G rfl (fX12_o hV) (fo11_45 (fX12_c hV)) (fX12_shelf hV) uw_1000 (fun _ h9 => h9) dX12_copy_43 ?_
          refine gx_iload_n C hl dX12_copy_46 rfl ?_
          obtain ⟨h32, h⟩ := h
          refine gx_iald C G rfl (fX12_shelf_l hV) (fX12_shelf_t hV) rx1 h32.1 (ixl (fX12_shelf_n hV) h32.2) dX12_copy_47 ?_
          have r33 := G.r (o + 25) (Int.toNat x1)
          refine gx_iconst C dX12_copy_48 ?_
          refine gx_icmp_lt (tgt := 67) C r33 (show rng 3 by decide) dX12_copy_49 (by decide) (fun c34 => ?_) (fun c34 => ?_)
          · have h := h.1 c34
            exact b67 S23 H locs ls hl G h
          · have h := h.2 c34
            refine gx_aload_n C hl dX12_copy_52 rfl ?_
            refine gx_getF C G rfl (fX12_o hV) (fo11_45 (fX12_c hV)) (fX12_shelf hV) uw_1000 (fun _ h9 => h9) dX12_copy_53 ?_
            refine gx_iload_n C hl dX12_copy_56 rfl ?_
            obtain ⟨h35, h⟩ := h
            refine gx_iald C G rfl (fX12_shelf_l hV) (fX12_shelf_t hV) rx1 h35.1 (ixl (fX12_shelf_n hV) h35.2) dX12_copy_57 ?_
            have r36 := G.r (o + 25) (Int.toNat x1)
            refine gx_aload_n C hl dX12_copy_58 rfl ?_
            refine gx_getF C G rfl (fX12_o hV) (fo11_45 (fX12_c hV)) (fX12_shelf hV) uw_1000 (fun _ h9 => h9) dX12_copy_59 ?_
            refine gx_iload_n C hl dX12_copy_62 rfl ?_
            obtain ⟨h37, h⟩ := h
            refine gx_iald C G rfl (fX12_shelf_l hV) (fX12_shelf_t hV) rx3 h37.1 (ixl (fX12_shelf_n hV) h37.2) dX12_copy_63 ?_
            have r38 := G.r (o + 25) (Int.toNat x3)
            refine gx_icmp_eq (tgt := 70) C r36 r38 dX12_copy_64 (by decide) (fun c39 => ?_) (fun c39 => ?_)
            · have h := h.1 c39
              refine gx_aload_n C hl dX12_copy_70 rfl ?_
              refine gx_iload_n C hl dX12_copy_71 rfl ?_
              refine gx_iload_n C hl dX12_copy_72 rfl ?_
              refine gx_iload C hl dX12_copy_73 rfl ?_
              refine gx_callV C G hl hml (c_X12_hasPlaces l D cy ad hV rx1 rx2 rx5 h) rfl (fX12_o hV) (by rw [(fX12_c hV)]; rfl) (by rw [(fX12_c hV)]; decide) rfl uw_1363 uw_1360 uw_1362 up_44 uw_9 hd_X12_hasPlaces ⟨Nat.le_of_ble_eq_true rfl, Nat.le_of_ble_eq_true rfl⟩ ⟨Nat.zero_le _, Nat.zero_le _⟩ rfl rfl (hw_le ad [] rfl (Nat.le_of_ble_eq_true rfl)) dX12_copy_75 (kkI (fun t41 S40 H locs rt41 h G => ?_))
              refine gx_if_eq (tgt := 93) C rt41 dX12_copy_78 (by decide) (fun c42 => ?_) (fun c42 => ?_)
              · have h := h.1 c42
                exact b93 S40 H locs ls hl G h
              · have h := h.2 c42
                refine gx_aload_n C hl dX12_copy_81 rfl ?_
                refine gx_iload_n C hl dX12_copy_82 rfl ?_
                refine gx_iload C hl dX12_copy_83 rfl ?_
                refine gx_iload C hl dX12_copy_85 rfl ?_
                refine gx_callV C G hl hml (c_X12_hasPlaces l D cy ad hV rx3 rx4 rx5 h) rfl (fX12_o hV) (by rw [(fX12_c hV)]; rfl) (by rw [(fX12_c hV)]; decide) rfl uw_1363 uw_1360 uw_1362 up_44 uw_9 hd_X12_hasPlaces ⟨Nat.le_of_ble_eq_true rfl, Nat.le_of_ble_eq_true rfl⟩ ⟨Nat.zero_le _, Nat.zero_le _⟩ rfl rfl (hw_le ad [] rfl (Nat.le_of_ble_eq_true rfl)) dX12_copy_87 (kkI (fun t44 S43 H locs rt44 h G => ?_))
                refine gx_if_ne (tgt := 96) C rt44 dX12_copy_90 (by decide) (fun c45 => ?_) (fun c45 => ?_)
                · have h := h.1 c45
                  refine gx_iconst C dX12_copy_96 ?_
                  refine gx_istore C hl dX12_copy_97 (Nat.le_of_ble_eq_true rfl) (PL' := [some (.inr (some o)), some (.inl x1), some (.inl x2), some (.inl x3), some (.inl x4), some (.inl x5), some (.inl 0)]) rfl (fun ls hl => ?_)
                  obtain ⟨n9, h⟩ := h
                  exact b99 n9 0 S43 H locs ls (show rng 0 by decide) hl G h
                · have h := h.2 c45
                  exact b93 S43 H locs ls hl G h
            · have h := h.2 c39
              exact b67 S23 H locs ls hl G h
        · have h := h.2 c31
          exact b39 S23 H locs ls hl G h
    · have h := h.2 c25
      refine gx_iconst C dX12_copy_19 ?_
      exact gx_iret C G hret (show rng (-1) by decide) h dX12_copy_20
def PT_X12_denied (V : Vt) (o : Nat) (x1 : Int) (S : Me) (Q : Int → Me → Prop) : Prop := PT_X12_isShelf V x1 S (fun t2 S1 => ((¬ t2 = 0 → (0 ≤ x1 ∧ x1 < 8) ∧ ((¬ (S1.1 (o + 25) (Int.toNat x1)) = 0 → (0 ≤ x1 ∧ x1 < 8) ∧ (((S1.1 (o + 25) (Int.toNat x1)) ≤ 1 → Q 0 S1) ∧ (¬ (S1.1 (o + 25) (Int.toNat x1)) ≤ 1 → Q (-12) S1))) ∧ ((S1.1 (o + 25) (Int.toNat x1)) = 0 → Q (-11) S1))) ∧ (t2 = 0 → Q (-1) S1)))
theorem hd_X12_denied : yX12_denied.cls ≠ "java/lang/invoke/MethodHandle" ∧ yX12_denied.cls ≠ "java/lang/invoke/VarHandle" ∧ (parseMethodDescriptor yX12_denied.desc).map (fun d => d.parameters.length) = some 1 := by decide +kernel
set_option maxHeartbeats 4000000 in
set_option maxRecDepth 100000 in
theorem c_X12_denied (l : Launch) (D : va_G) (cy : ClassId × ClassId × ClassId × ClassId) (ad : Nat → Nat) {V : Vt} {S : Me} {o : Nat} {x1 : Int} (hV : fX12 V o) (rx1 : rng x1) {Q : Int → Me → Prop} (h : PT_X12_denied V o x1 S Q) : KM l D cy yX12_denied cX12_denied 2 (Option.some Jvm.ClassFile.FieldType.int) 1 20 ad V S [.inr (some o), .inl x1] (qI Q) := by
  refine KM.of (by decide) rfl (Nat.le_of_ble_eq_true rfl) (own := RX12) (fun p e s m args below meth c A ls H locs eA C hret hml hmn hl G => ?_)
  have hl : lo ad ls [some (.inr (some o)), some (.inl x1)] := hl
  clear eA
  unfold PT_X12_denied at h
  refine gx_iload_n C hl dX12_denied_0 rfl ?_
  refine gx_callS C G hl hml (c_X12_isShelf l D cy ad rx1 h) uw_1342 uw_1340 uw_1341 uw_9 hd_X12_isShelf ⟨Nat.le_of_ble_eq_true rfl, Nat.le_of_ble_eq_true rfl⟩ ⟨Nat.zero_le _, Nat.zero_le _⟩ rfl rfl (hw_le ad [] rfl (Nat.le_of_ble_eq_true rfl)) dX12_denied_1 (kkI (fun t2 S1 H locs rt2 h G => ?_))
  refine gx_if_ne (tgt := 11) C rt2 dX12_denied_4 (by decide) (fun c3 => ?_) (fun c3 => ?_)
  · have h := h.1 c3
    refine gx_aload_n C hl dX12_denied_11 rfl ?_
    refine gx_getF C G rfl (fX12_o hV) (fo11_45 (fX12_c hV)) (fX12_shelf hV) uw_1000 (fun _ h9 => h9) dX12_denied_12 ?_
    refine gx_iload_n C hl dX12_denied_15 rfl ?_
    obtain ⟨h4, h⟩ := h
    refine gx_iald C G rfl (fX12_shelf_l hV) (fX12_shelf_t hV) rx1 h4.1 (ixl (fX12_shelf_n hV) h4.2) dX12_denied_16 ?_
    have r5 := G.r (o + 25) (Int.toNat x1)
    refine gx_if_ne (tgt := 25) C r5 dX12_denied_17 (by decide) (fun c6 => ?_) (fun c6 => ?_)
    · have h := h.1 c6
      refine gx_aload_n C hl dX12_denied_25 rfl ?_
      refine gx_getF C G rfl (fX12_o hV) (fo11_45 (fX12_c hV)) (fX12_shelf hV) uw_1000 (fun _ h9 => h9) dX12_denied_26 ?_
      refine gx_iload_n C hl dX12_denied_29 rfl ?_
      obtain ⟨h7, h⟩ := h
      refine gx_iald C G rfl (fX12_shelf_l hV) (fX12_shelf_t hV) rx1 h7.1 (ixl (fX12_shelf_n hV) h7.2) dX12_denied_30 ?_
      have r8 := G.r (o + 25) (Int.toNat x1)
      refine gx_iconst C dX12_denied_31 ?_
      refine gx_icmp_le (tgt := 40) C r8 (show rng 1 by decide) dX12_denied_32 (by decide) (fun c9 => ?_) (fun c9 => ?_)
      · have h := h.1 c9
        refine gx_iconst C dX12_denied_40 ?_
        exact gx_iret C G hret (show rng 0 by decide) h dX12_denied_41
      · have h := h.2 c9
        refine gx_bipush C dX12_denied_35 (by decide) ?_
        refine gx_goto (tgt := 41) C dX12_denied_37 (by decide) ?_
        exact gx_iret C G hret (show rng (-12) by decide) h dX12_denied_41
    · have h := h.2 c6
      refine gx_bipush C dX12_denied_20 (by decide) ?_
      refine gx_goto (tgt := 41) C dX12_denied_22 (by decide) ?_
      exact gx_iret C G hret (show rng (-11) by decide) h dX12_denied_41
  · have h := h.2 c3
    refine gx_iconst C dX12_denied_7 ?_
    refine gx_goto (tgt := 41) C dX12_denied_8 (by decide) ?_
    exact gx_iret C G hret (show rng (-1) by decide) h dX12_denied_41
def PT_X12_weight (V : Vt) (o : Nat) (x1 : Int) (S : Me) (Q : Int → Me → Prop) : Prop := ∀ S1 : Me, S1 = sI S o 0 0 → PT_X12_denied V o x1 S1 (fun t3 S2 => ((0 ≤ t3 → (0 ≤ x1 ∧ x1 < 8) ∧ (0 ≤ (S2.1 (o + 27) (Int.toNat x1)) ∧ (S2.1 (o + 27) (Int.toNat x1)) < 400) ∧ (rng (5 + (S2.1 (o + 5) (Int.toNat (S2.1 (o + 27) (Int.toNat x1)))))) ∧ (0 ≤ x1 ∧ x1 < 8) ∧ (0 ≤ (S2.1 (o + 27) (Int.toNat x1)) ∧ (S2.1 (o + 27) (Int.toNat x1)) < 400) ∧ (((S2.1 (o + 4) (Int.toNat (S2.1 (o + 27) (Int.toNat x1)))) = 0 → Q (5 + (S2.1 (o + 5) (Int.toNat (S2.1 (o + 27) (Int.toNat x1))))) S2) ∧ ((S2.1 (o + 4) (Int.toNat (S2.1 (o + 27) (Int.toNat x1)))) = 1 → (rng ((5 + (S2.1 (o + 5) (Int.toNat (S2.1 (o + 27) (Int.toNat x1))))) + 20)) ∧ Q ((5 + (S2.1 (o + 5) (Int.toNat (S2.1 (o + 27) (Int.toNat x1))))) + 20) S2) ∧ ((S2.1 (o + 4) (Int.toNat (S2.1 (o + 27) (Int.toNat x1)))) = 2 → (rng ((5 + (S2.1 (o + 5) (Int.toNat (S2.1 (o + 27) (Int.toNat x1))))) + 20)) ∧ (rng (2 * ((5 + (S2.1 (o + 5) (Int.toNat (S2.1 (o + 27) (Int.toNat x1))))) + 20))) ∧ Q (2 * ((5 + (S2.1 (o + 5) (Int.toNat (S2.1 (o + 27) (Int.toNat x1))))) + 20)) S2) ∧ ((S2.1 (o + 4) (Int.toNat (S2.1 (o + 27) (Int.toNat x1)))) = 3 → (rng ((5 + (S2.1 (o + 5) (Int.toNat (S2.1 (o + 27) (Int.toNat x1))))) + 20)) ∧ (rng (2 * ((5 + (S2.1 (o + 5) (Int.toNat (S2.1 (o + 27) (Int.toNat x1))))) + 20))) ∧ (rng ((2 * ((5 + (S2.1 (o + 5) (Int.toNat (S2.1 (o + 27) (Int.toNat x1))))) + 20)) + 1)) ∧ Q ((2 * ((5 + (S2.1 (o + 5) (Int.toNat (S2.1 (o + 27) (Int.toNat x1))))) + 20)) + 1) S2) ∧ (((S2.1 (o + 4) (Int.toNat (S2.1 (o + 27) (Int.toNat x1)))) < 0 ∨ 3 < (S2.1 (o + 4) (Int.toNat (S2.1 (o + 27) (Int.toNat x1))))) → (rng ((5 + (S2.1 (o + 5) (Int.toNat (S2.1 (o + 27) (Int.toNat x1))))) + 300)) ∧ Q ((5 + (S2.1 (o + 5) (Int.toNat (S2.1 (o + 27) (Int.toNat x1))))) + 300) S2))) ∧ (¬ 0 ≤ t3 → Q t3 S2)))
theorem hd_X12_weight : yX12_weight.cls ≠ "java/lang/invoke/MethodHandle" ∧ yX12_weight.cls ≠ "java/lang/invoke/VarHandle" ∧ (parseMethodDescriptor yX12_weight.desc).map (fun d => d.parameters.length) = some 1 := by decide +kernel
set_option maxHeartbeats 4000000 in
set_option maxRecDepth 100000 in
theorem c_X12_weight (l : Launch) (D : va_G) (cy : ClassId × ClassId × ClassId × ClassId) (ad : Nat → Nat) {V : Vt} {S : Me} {o : Nat} {x1 : Int} (hV : fX12 V o) (rx1 : rng x1) {Q : Int → Me → Prop} (h : PT_X12_weight V o x1 S Q) : KM l D cy yX12_weight cX12_weight 4 (Option.some Jvm.ClassFile.FieldType.int) 2 41 ad V S [.inr (some o), .inl x1] (qI Q) := by
  refine KM.of (by decide) rfl (Nat.le_of_ble_eq_true rfl) (own := RX12) (fun p e s m args below meth c A ls H locs eA C hret hml hmn hl G => ?_)
  have hl : lo ad ls [some (.inr (some o)), some (.inl x1), none, none] := hl
  clear eA
  unfold PT_X12_weight at h
  refine gx_aload_n C hl dX12_weight_0 rfl ?_
  refine gx_iconst C dX12_weight_1 ?_
  refine gx_putI C G rfl (fX12_o hV) (fo11_0 (fX12_c hV)) (show rng 0 by decide) uw_955 (fun _ h9 => h9) dX12_weight_2 (fun H locs G => ?_)
  obtain ⟨S1, eS1⟩ : ∃ q9 : Me, q9 = sI S o 0 0 := ⟨_, rfl⟩
  have h := h S1 eS1
  rw [← eS1] at G
  refine gx_aload_n C hl dX12_weight_5 rfl ?_
  refine gx_iload_n C hl dX12_weight_6 rfl ?_
  refine gx_callV C G hl hml (c_X12_denied l D cy ad hV rx1 h) rfl (fX12_o hV) (by rw [(fX12_c hV)]; rfl) (by rw [(fX12_c hV)]; decide) rfl uw_1371 uw_1368 uw_1370 up_45 uw_9 hd_X12_denied ⟨Nat.le_of_ble_eq_true rfl, Nat.le_of_ble_eq_true rfl⟩ ⟨Nat.zero_le _, Nat.zero_le _⟩ rfl rfl (hw_le ad [] rfl (Nat.le_of_ble_eq_true rfl)) dX12_weight_7 (kkI (fun t3 S2 H locs rt3 h G => ?_))
  refine gx_istore_n C hl dX12_weight_10 (Nat.le_of_ble_eq_true rfl) (PL' := [some (.inr (some o)), some (.inl x1), some (.inl t3), none]) rfl (fun ls hl => ?_)
  refine gx_iload_n C hl dX12_weight_11 rfl ?_
  refine gx_if_ge (tgt := 17) C rt3 dX12_weight_12 (by decide) (fun c4 => ?_) (fun c4 => ?_)
  · have h := h.1 c4
    refine gx_iconst C dX12_weight_17 ?_
    refine gx_aload_n C hl dX12_weight_18 rfl ?_
    refine gx_getF C G rfl (fX12_o hV) (fo11_16 (fX12_c hV)) (fX12_asker hV) uw_971 (fun _ h9 => h9) dX12_weight_19 ?_
    refine gx_aload_n C hl dX12_weight_22 rfl ?_
    refine gx_getF C G rfl (fX12_o hV) (fo11_47 (fX12_c hV)) (fX12_shelfAsk hV) uw_1002 (fun _ h9 => h9) dX12_weight_23 ?_
    refine gx_iload_n C hl dX12_weight_26 rfl ?_
    obtain ⟨h5, h⟩ := h
    refine gx_iald C G rfl (fX12_shelfAsk_l hV) (fX12_shelfAsk_t hV) rx1 h5.1 (ixl (fX12_shelfAsk_n hV) h5.2) dX12_weight_27 ?_
    have r6 := G.r (o + 27) (Int.toNat x1)
    obtain ⟨h7, h⟩ := h
    refine gx_iald C G rfl (fX12_asker_l hV) (fX12_asker_t hV) r6 h7.1 (ixl (fX12_asker_n hV) h7.2) dX12_weight_28 ?_
    have r8 := G.r (o + 5) (Int.toNat (S2.1 (o + 27) (Int.toNat x1)))
    obtain ⟨h9, h⟩ := h
    refine gx_iadd C dX12_weight_29 ?_
    refine gx_istore_n C hl dX12_weight_30 (Nat.le_of_ble_eq_true rfl) (PL' := [some (.inr (some o)), some (.inl x1), some (.inl t3), some (.inl (5 + (S2.1 (o + 5) (Int.toNat (S2.1 (o + 27) (Int.toNat x1))))))]) rfl (fun ls hl => ?_)
    refine gx_aload_n C hl dX12_weight_31 rfl ?_
    refine gx_getF C G rfl (fX12_o hV) (fo11_15 (fX12_c hV)) (fX12_kind hV) uw_970 (fun _ h9 => h9) dX12_weight_32 ?_
    refine gx_aload_n C hl dX12_weight_35 rfl ?_
    refine gx_getF C G rfl (fX12_o hV) (fo11_47 (fX12_c hV)) (fX12_shelfAsk hV) uw_1002 (fun _ h9 => h9) dX12_weight_36 ?_
    refine gx_iload_n C hl dX12_weight_39 rfl ?_
    obtain ⟨h10, h⟩ := h
    refine gx_iald C G rfl (fX12_shelfAsk_l hV) (fX12_shelfAsk_t hV) rx1 h10.1 (ixl (fX12_shelfAsk_n hV) h10.2) dX12_weight_40 ?_
    have r11 := G.r (o + 27) (Int.toNat x1)
    obtain ⟨h12, h⟩ := h
    refine gx_iald C G rfl (fX12_kind_l hV) (fX12_kind_t hV) r11 h12.1 (ixl (fX12_kind_n hV) h12.2) dX12_weight_41 ?_
    have r13 := G.r (o + 4) (Int.toNat (S2.1 (o + 27) (Int.toNat x1)))
    by_cases c14 : (S2.1 (o + 4) (Int.toNat (S2.1 (o + 27) (Int.toNat x1)))) = 0
    · refine gx_tableIn (tgt := 72) C r13 dX12_weight_42 0 c14 (by decide) (by decide) rfl (by decide) ?_
      have h := h.1 c14
      refine gx_iload_n C hl dX12_weight_72 rfl ?_
      exact gx_iret C G hret h9 h dX12_weight_73
    · by_cases c16 : (S2.1 (o + 4) (Int.toNat (S2.1 (o + 27) (Int.toNat x1)))) = 1
      · refine gx_tableIn (tgt := 74) C r13 dX12_weight_42 1 c16 (by decide) (by decide) rfl (by decide) ?_
        have h := h.2.1 c16
        refine gx_iload_n C hl dX12_weight_74 rfl ?_
        refine gx_bipush C dX12_weight_75 (by decide) ?_
        obtain ⟨h15, h⟩ := h
        refine gx_iadd C dX12_weight_77 ?_
        exact gx_iret C G hret h15 h dX12_weight_78
      · by_cases c19 : (S2.1 (o + 4) (Int.toNat (S2.1 (o + 27) (Int.toNat x1)))) = 2
        · refine gx_tableIn (tgt := 79) C r13 dX12_weight_42 2 c19 (by decide) (by decide) rfl (by decide) ?_
          have h := h.2.2.1 c19
          refine gx_iconst C dX12_weight_79 ?_
          refine gx_iload_n C hl dX12_weight_80 rfl ?_
          refine gx_bipush C dX12_weight_81 (by decide) ?_
          obtain ⟨h17, h⟩ := h
          refine gx_iadd C dX12_weight_83 ?_
          obtain ⟨h18, h⟩ := h
          refine gx_imul C dX12_weight_84 ?_
          exact gx_iret C G hret h18 h dX12_weight_85
        · by_cases c23 : (S2.1 (o + 4) (Int.toNat (S2.1 (o + 27) (Int.toNat x1)))) = 3
          · refine gx_tableIn (tgt := 86) C r13 dX12_weight_42 3 c23 (by decide) (by decide) rfl (by decide) ?_
            have h := h.2.2.2.1 c23
            refine gx_iconst C dX12_weight_86 ?_
            refine gx_iload_n C hl dX12_weight_87 rfl ?_
            refine gx_bipush C dX12_weight_88 (by decide) ?_
            obtain ⟨h20, h⟩ := h
            refine gx_iadd C dX12_weight_90 ?_
            obtain ⟨h21, h⟩ := h
            refine gx_imul C dX12_weight_91 ?_
            refine gx_iconst C dX12_weight_92 ?_
            obtain ⟨h22, h⟩ := h
            refine gx_iadd C dX12_weight_93 ?_
            exact gx_iret C G hret h22 h dX12_weight_94
          · have c25 : (S2.1 (o + 4) (Int.toNat (S2.1 (o + 27) (Int.toNat x1)))) < 0 ∨ 3 < (S2.1 (o + 4) (Int.toNat (S2.1 (o + 27) (Int.toNat x1)))) := by omega
            refine gx_tableOut (tgt := 95) C r13 dX12_weight_42 c25 (by decide) ?_
            have h := h.2.2.2.2 c25
            refine gx_iload_n C hl dX12_weight_95 rfl ?_
            refine gx_sipush C dX12_weight_96 (by decide) ?_
            obtain ⟨h24, h⟩ := h
            refine gx_iadd C dX12_weight_99 ?_
            exact gx_iret C G hret h24 h dX12_weight_100
  · have h := h.2 c4
    refine gx_iload_n C hl dX12_weight_15 rfl ?_
    exact gx_iret C G hret rt3 h dX12_weight_16
def PT_X12_toss (V : Vt) (o : Nat) (x1 : Int) (S : Me) (Q : Int → Me → Prop) : Prop := ∀ S1 : Me, S1 = sI S o 0 0 → PT_X12_denied V o x1 S1 (fun t3 S2 => ((0 ≤ t3 → (0 ≤ x1 ∧ x1 < 8) ∧ (0 ≤ (S2.1 (o + 27) (Int.toNat x1)) ∧ (S2.1 (o + 27) (Int.toNat x1)) < 400) ∧ ((¬ (S2.1 (o + 4) (Int.toNat (S2.1 (o + 27) (Int.toNat x1)))) = 0 → (0 ≤ x1 ∧ x1 < 8) ∧ Q (S2.1 (o + 27) (Int.toNat x1)) S2) ∧ ((S2.1 (o + 4) (Int.toNat (S2.1 (o + 27) (Int.toNat x1)))) = 0 → Q (-15) S2))) ∧ (¬ 0 ≤ t3 → Q t3 S2)))
theorem hd_X12_toss : yX12_toss.cls ≠ "java/lang/invoke/MethodHandle" ∧ yX12_toss.cls ≠ "java/lang/invoke/VarHandle" ∧ (parseMethodDescriptor yX12_toss.desc).map (fun d => d.parameters.length) = some 1 := by decide +kernel
set_option maxHeartbeats 4000000 in
set_option maxRecDepth 100000 in
theorem c_X12_toss (l : Launch) (D : va_G) (cy : ClassId × ClassId × ClassId × ClassId) (ad : Nat → Nat) {V : Vt} {S : Me} {o : Nat} {x1 : Int} (hV : fX12 V o) (rx1 : rng x1) {Q : Int → Me → Prop} (h : PT_X12_toss V o x1 S Q) : KM l D cy yX12_toss cX12_toss 3 (Option.some Jvm.ClassFile.FieldType.int) 2 41 ad V S [.inr (some o), .inl x1] (qI Q) := by
  refine KM.of (by decide) rfl (Nat.le_of_ble_eq_true rfl) (own := RX12) (fun p e s m args below meth c A ls H locs eA C hret hml hmn hl G => ?_)
  have hl : lo ad ls [some (.inr (some o)), some (.inl x1), none] := hl
  clear eA
  unfold PT_X12_toss at h
  refine gx_aload_n C hl dX12_toss_0 rfl ?_
  refine gx_iconst C dX12_toss_1 ?_
  refine gx_putI C G rfl (fX12_o hV) (fo11_0 (fX12_c hV)) (show rng 0 by decide) uw_955 (fun _ h9 => h9) dX12_toss_2 (fun H locs G => ?_)
  obtain ⟨S1, eS1⟩ : ∃ q9 : Me, q9 = sI S o 0 0 := ⟨_, rfl⟩
  have h := h S1 eS1
  rw [← eS1] at G
  refine gx_aload_n C hl dX12_toss_5 rfl ?_
  refine gx_iload_n C hl dX12_toss_6 rfl ?_
  refine gx_callV C G hl hml (c_X12_denied l D cy ad hV rx1 h) rfl (fX12_o hV) (by rw [(fX12_c hV)]; rfl) (by rw [(fX12_c hV)]; decide) rfl uw_1371 uw_1368 uw_1370 up_45 uw_9 hd_X12_denied ⟨Nat.le_of_ble_eq_true rfl, Nat.le_of_ble_eq_true rfl⟩ ⟨Nat.zero_le _, Nat.zero_le _⟩ rfl rfl (hw_le ad [] rfl (Nat.le_of_ble_eq_true rfl)) dX12_toss_7 (kkI (fun t3 S2 H locs rt3 h G => ?_))
  refine gx_istore_n C hl dX12_toss_10 (Nat.le_of_ble_eq_true rfl) (PL' := [some (.inr (some o)), some (.inl x1), some (.inl t3)]) rfl (fun ls hl => ?_)
  refine gx_iload_n C hl dX12_toss_11 rfl ?_
  refine gx_if_ge (tgt := 19) C rt3 dX12_toss_12 (by decide) (fun c4 => ?_) (fun c4 => ?_)
  · have h := h.1 c4
    refine gx_aload_n C hl dX12_toss_19 rfl ?_
    refine gx_getF C G rfl (fX12_o hV) (fo11_15 (fX12_c hV)) (fX12_kind hV) uw_970 (fun _ h9 => h9) dX12_toss_20 ?_
    refine gx_aload_n C hl dX12_toss_23 rfl ?_
    refine gx_getF C G rfl (fX12_o hV) (fo11_47 (fX12_c hV)) (fX12_shelfAsk hV) uw_1002 (fun _ h9 => h9) dX12_toss_24 ?_
    refine gx_iload_n C hl dX12_toss_27 rfl ?_
    obtain ⟨h5, h⟩ := h
    refine gx_iald C G rfl (fX12_shelfAsk_l hV) (fX12_shelfAsk_t hV) rx1 h5.1 (ixl (fX12_shelfAsk_n hV) h5.2) dX12_toss_28 ?_
    have r6 := G.r (o + 27) (Int.toNat x1)
    obtain ⟨h7, h⟩ := h
    refine gx_iald C G rfl (fX12_kind_l hV) (fX12_kind_t hV) r6 h7.1 (ixl (fX12_kind_n hV) h7.2) dX12_toss_29 ?_
    have r8 := G.r (o + 4) (Int.toNat (S2.1 (o + 27) (Int.toNat x1)))
    refine gx_if_ne (tgt := 38) C r8 dX12_toss_30 (by decide) (fun c9 => ?_) (fun c9 => ?_)
    · have h := h.1 c9
      refine gx_aload_n C hl dX12_toss_38 rfl ?_
      refine gx_getF C G rfl (fX12_o hV) (fo11_47 (fX12_c hV)) (fX12_shelfAsk hV) uw_1002 (fun _ h9 => h9) dX12_toss_39 ?_
      refine gx_iload_n C hl dX12_toss_42 rfl ?_
      obtain ⟨h10, h⟩ := h
      refine gx_iald C G rfl (fX12_shelfAsk_l hV) (fX12_shelfAsk_t hV) rx1 h10.1 (ixl (fX12_shelfAsk_n hV) h10.2) dX12_toss_43 ?_
      have r11 := G.r (o + 27) (Int.toNat x1)
      exact gx_iret C G hret r11 h dX12_toss_44
    · have h := h.2 c9
      refine gx_bipush C dX12_toss_33 (by decide) ?_
      refine gx_goto (tgt := 44) C dX12_toss_35 (by decide) ?_
      exact gx_iret C G hret (show rng (-15) by decide) h dX12_toss_44
  · have h := h.2 c4
    refine gx_iload_n C hl dX12_toss_15 rfl ?_
    refine gx_goto (tgt := 44) C dX12_toss_16 (by decide) ?_
    exact gx_iret C G hret rt3 h dX12_toss_44
