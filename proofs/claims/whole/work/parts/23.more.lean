def B_X1_findFault_74 (V : Vt) (o : Nat) (x1 : Option Nat) (K9 : Int → Me → Prop) (y2 : Int) (y3 : Int) (S : Me) (Q : Int → Me → Prop) : Prop := ((y3 = (-2) → (0 ≤ y2 ∧ y2 < 400) ∧ (0 ≤ y2 ∧ y2 < 400) ∧ (0 ≤ y2 ∧ y2 < 400) ∧ PT_X5_remember V (o + 7) (S.1 (o + 3) (Int.toNat y2)) (S.1 (o + 4) (Int.toNat y2)) (S.1 (o + 2) (Int.toNat y2)) S (fun S8 => (rng (y2 + 1)) ∧ K9 (y2 + 1) S8)) ∧ (¬ y3 = (-2) → ∀ S10 : Me, S10 = sI S o 8 y3 → Q y2 S10))
def B_X1_findFault_9 (V : Vt) (o : Nat) (x1 : Option Nat) (Q : Int → Me → Prop) : Nat → (Int → Me → Prop)
  | 0 => fun _ _ => False
  | n + 1 => fun y2 S => (((S.1 o 7) ≤ y2 → ∀ S13 : Me, S13 = sI S o 8 (-2) → Q (-2) S13) ∧ (¬ (S.1 o 7) ≤ y2 → (0 ≤ y2 ∧ y2 < 400) ∧ (0 ≤ y2 ∧ y2 < 400) ∧ (0 ≤ y2 ∧ y2 < 400) ∧ PT_X5_leastBroken V (o + 7) x1 (S.1 (o + 3) (Int.toNat y2)) (S.1 (o + 4) (Int.toNat y2)) (S.1 (o + 2) (Int.toNat y2)) S (fun t21 S20 => ((¬ t21 = (-2) → B_X1_findFault_74 V o x1 (B_X1_findFault_9 V o x1 Q n) y2 t21 S20 Q) ∧ (t21 = (-2) → ((y2 ≤ 0 → B_X1_findFault_74 V o x1 (B_X1_findFault_9 V o x1 Q n) y2 t21 S20 Q) ∧ (¬ y2 ≤ 0 → (0 ≤ y2 ∧ y2 < 400) ∧ (rng (y2 - 1)) ∧ (0 ≤ (y2 - 1) ∧ (y2 - 1) < 400) ∧ (((S20.1 (o + 2) (Int.toNat (y2 - 1))) < (S20.1 (o + 2) (Int.toNat y2)) → B_X1_findFault_74 V o x1 (B_X1_findFault_9 V o x1 Q n) y2 t21 S20 Q) ∧ (¬ (S20.1 (o + 2) (Int.toNat (y2 - 1))) < (S20.1 (o + 2) (Int.toNat y2)) → B_X1_findFault_74 V o x1 (B_X1_findFault_9 V o x1 Q n) y2 13 S20 Q)))))))))
def PT_X1_findFault (V : Vt) (o : Nat) (x1 : Option Nat) (S : Me) (Q : Int → Me → Prop) : Prop := PT_X5_forget V (o + 7) S (fun S30 => (∃ n9 : Nat, B_X1_findFault_9 V o x1 Q n9 0 S30))
theorem hd_X1_findFault : yX1_findFault.cls ≠ "java/lang/invoke/MethodHandle" ∧ yX1_findFault.cls ≠ "java/lang/invoke/VarHandle" ∧ (parseMethodDescriptor yX1_findFault.desc).map (fun d => d.parameters.length) = some 1 := by decide +kernel
set_option maxHeartbeats 4000000 in
set_option maxRecDepth 100000 in
theorem c_X1_findFault (l : Launch) (D : va_G) (cy : ClassId × ClassId × ClassId × ClassId) (ad : Nat → Nat) {V : Vt} {S : Me} {o : Nat} {x1 : Option Nat} (hV : fX1 V o) (vx1 : ∀ z, x1 = some z → z < V.1) {Q : Int → Me → Prop} (h : PT_X1_findFault V o x1 S Q) : KM l D cy yX1_findFault cX1_findFault 4 (Option.some Jvm.ClassFile.FieldType.int) 2 49 ad V S [.inr (some o), .inr x1] (qI Q) := by
  refine KM.of (by decide) rfl (Nat.le_of_ble_eq_true rfl) (own := RX1) (fun p e s m args below meth c A ls H locs eA C hret hml hmn hl G => ?_)
  have hl : lo ad ls [some (.inr (some o)), some (.inr x1), none, none] := hl
  have b74 : ∀ (K9 : Int → Me → Prop) (hK9 : ∀ (y2 : Int) (S : Me) (H : Heap) (locs : List Loc) (ls : Array Slot), rng y2 → lo ad ls [some (.inr (some o)), some (.inr x1), some (.inl y2), none] → Gy D cy A s.heap ad V S H locs → K9 y2 S → W p l e (rmx 2 49) s m args below meth c H locs 0 0 (qm below D cy ad V A args s (qI Q)) (F0 m 9 ls [])) (y2 : Int) (y3 : Int) (S : Me) (H : Heap) (locs : List Loc) (ls : Array Slot), rng y2 → rng y3 → lo ad ls [some (.inr (some o)), some (.inr x1), some (.inl y2), some (.inl y3)] → Gy D cy A s.heap ad V S H locs → B_X1_findFault_74 V o x1 K9 y2 y3 S Q → W p l e (rmx 2 49) s m args below meth c H locs 0 0 (qm below D cy ad V A args s (qI Q)) (F0 m 74 ls []) := by
    intro K9 hK9 y2 y3 S H locs ls ry2 ry3 hl G h
    unfold B_X1_findFault_74 at h
    refine gx_iload_n C hl dX1_findFault_74 rfl ?_
    refine gx_bipush C dX1_findFault_75 (by decide) ?_
    refine gx_icmp_eq (tgt := 87) C ry3 (show rng (-2) by decide) dX1_findFault_77 (by decide) (fun c1 => ?_) (fun c1 => ?_)
    · have h := h.1 c1
      refine gx_aload_n C hl dX1_findFault_87 rfl ?_
      refine gx_getF C G rfl (fX1_o hV) (fo0_6 (fX1_c hV)) (fX1_checked hV) uw_103 (fun _ h9 => h9) dX1_findFault_88 ?_
      refine gx_aload_n C hl dX1_findFault_91 rfl ?_
      refine gx_getF C G rfl (fX1_o hV) (fo0_2 (fX1_c hV)) (fX1_which hV) uw_95 (fun _ h9 => h9) dX1_findFault_92 ?_
      refine gx_iload_n C hl dX1_findFault_95 rfl ?_
      obtain ⟨h2, h⟩ := h
      refine gx_iald C G rfl (fX1_which_l hV) (fX1_which_t hV) ry2 h2.1 (ixl (fX1_which_n hV) h2.2) dX1_findFault_96 ?_
      have r3 := G.r (o + 3) (Int.toNat y2)
      refine gx_aload_n C hl dX1_findFault_97 rfl ?_
      refine gx_getF C G rfl (fX1_o hV) (fo0_3 (fX1_c hV)) (fX1_banks hV) uw_97 (fun _ h9 => h9) dX1_findFault_98 ?_
      refine gx_iload_n C hl dX1_findFault_101 rfl ?_
      obtain ⟨h4, h⟩ := h
      refine gx_iald C G rfl (fX1_banks_l hV) (fX1_banks_t hV) ry2 h4.1 (ixl (fX1_banks_n hV) h4.2) dX1_findFault_102 ?_
      have r5 := G.r (o + 4) (Int.toNat y2)
      refine gx_aload_n C hl dX1_findFault_103 rfl ?_
      refine gx_getF C G rfl (fX1_o hV) (fo0_1 (fX1_c hV)) (fX1_forged hV) uw_93 (fun _ h9 => h9) dX1_findFault_104 ?_
      refine gx_iload_n C hl dX1_findFault_107 rfl ?_
      obtain ⟨h6, h⟩ := h
      refine gx_iald C G rfl (fX1_forged_l hV) (fX1_forged_t hV) ry2 h6.1 (ixl (fX1_forged_n hV) h6.2) dX1_findFault_108 ?_
      have r7 := G.r (o + 2) (Int.toNat y2)
      refine gx_callV C G hl hml (c_X5_remember l D cy ad (fX1_checked_s hV) r3 r5 r7 h) rfl (fX5_o (fX1_checked_s hV)) (by rw [(fX5_c (fX1_checked_s hV))]; rfl) (by rw [(fX5_c (fX1_checked_s hV))]; decide) rfl uw_599 uw_717 uw_597 uw_598 uw_2 hd_X5_remember ⟨Nat.le_of_ble_eq_true rfl, Nat.le_of_ble_eq_true rfl⟩ ⟨Nat.zero_le _, Nat.zero_le _⟩ rfl rfl (hw_le ad [] rfl (Nat.le_of_ble_eq_true rfl)) dX1_findFault_109 (kkV (fun S8 H locs h G => ?_))
      obtain ⟨h9, h⟩ := h
      refine gx_iinc C hl dX1_findFault_112 rfl (PL' := [some (.inr (some o)), some (.inr x1), some (.inl (y2 + 1)), some (.inl y3)]) rfl (fun ls hl => ?_)
      refine gx_goto (tgt := 9) C dX1_findFault_115 (by decide) ?_
      exact hK9 (y2 + 1) S8 H locs ls h9 (lo_mask (bs := [true, true, true, false]) hl rfl rfl) G h
    · have h := h.2 c1
      refine gx_aload_n C hl dX1_findFault_80 rfl ?_
      refine gx_iload_n C hl dX1_findFault_81 rfl ?_
      refine gx_putI C G rfl (fX1_o hV) (fo0_8 (fX1_c hV)) ry3 uw_106 (fun _ h9 => h9) dX1_findFault_82 (fun H locs G => ?_)
      obtain ⟨S10, eS10⟩ : ∃ q9 : Me, q9 = sI S o 8 y3 := ⟨_, rfl⟩
      have h := h S10 eS10
      rw [← eS10] at G
      refine gx_iload_n C hl dX1_findFault_85 rfl ?_
      exact gx_iret C G hret ry2 h dX1_findFault_86
  have b9 : ∀ (n : Nat) (y2 : Int) (S : Me) (H : Heap) (locs : List Loc) (ls : Array Slot), rng y2 → lo ad ls [some (.inr (some o)), some (.inr x1), some (.inl y2), none] → Gy D cy A s.heap ad V S H locs → B_X1_findFault_9 V o x1 Q n y2 S → W p l e (rmx 2 49) s m args below meth c H locs 0 0 (qm below D cy ad V A args s (qI Q)) (F0 m 9 ls []) := by
    intro n
    induction n with
    | zero =>
      intro y2 S H locs ls ry2 hl G h
      exact absurd h id
    | succ n ih =>
      intro y2 S H locs ls ry2 hl G h
      rw [B_X1_findFault_9] at h
      refine gx_iload_n C hl dX1_findFault_9 rfl ?_
      refine gx_aload_n C hl dX1_findFault_10 rfl ?_
      refine gx_getI C G rfl (fX1_o hV) (fo0_7 (fX1_c hV)) uw_104 (fun _ h9 => h9) dX1_findFault_11 ?_
      have r11 := G.r o 7
      refine gx_icmp_ge (tgt := 118) C ry2 r11 dX1_findFault_14 (by decide) (fun c12 => ?_) (fun c12 => ?_)
      · have h := h.1 c12
        refine gx_aload_n C hl dX1_findFault_118 rfl ?_
        refine gx_bipush C dX1_findFault_119 (by decide) ?_
        refine gx_putI C G rfl (fX1_o hV) (fo0_8 (fX1_c hV)) (show rng (-2) by decide) uw_106 (fun _ h9 => h9) dX1_findFault_121 (fun H locs G => ?_)
        obtain ⟨S13, eS13⟩ : ∃ q9 : Me, q9 = sI S o 8 (-2) := ⟨_, rfl⟩
        have h := h S13 eS13
        rw [← eS13] at G
        refine gx_bipush C dX1_findFault_124 (by decide) ?_
        exact gx_iret C G hret (show rng (-2) by decide) h dX1_findFault_126
      · have h := h.2 c12
        refine gx_aload_n C hl dX1_findFault_17 rfl ?_
        refine gx_getF C G rfl (fX1_o hV) (fo0_6 (fX1_c hV)) (fX1_checked hV) uw_103 (fun _ h9 => h9) dX1_findFault_18 ?_
        refine gx_aload_n C hl dX1_findFault_21 rfl ?_
        refine gx_aload_n C hl dX1_findFault_22 rfl ?_
        refine gx_getF C G rfl (fX1_o hV) (fo0_2 (fX1_c hV)) (fX1_which hV) uw_95 (fun _ h9 => h9) dX1_findFault_23 ?_
        refine gx_iload_n C hl dX1_findFault_26 rfl ?_
        obtain ⟨h14, h⟩ := h
        refine gx_iald C G rfl (fX1_which_l hV) (fX1_which_t hV) ry2 h14.1 (ixl (fX1_which_n hV) h14.2) dX1_findFault_27 ?_
        have r15 := G.r (o + 3) (Int.toNat y2)
        refine gx_aload_n C hl dX1_findFault_28 rfl ?_
        refine gx_getF C G rfl (fX1_o hV) (fo0_3 (fX1_c hV)) (fX1_banks hV) uw_97 (fun _ h9 => h9) dX1_findFault_29 ?_
        refine gx_iload_n C hl dX1_findFault_32 rfl ?_
        obtain ⟨h16, h⟩ := h
        refine gx_iald C G rfl (fX1_banks_l hV) (fX1_banks_t hV) ry2 h16.1 (ixl (fX1_banks_n hV) h16.2) dX1_findFault_33 ?_
        have r17 := G.r (o + 4) (Int.toNat y2)
        refine gx_aload_n C hl dX1_findFault_34 rfl ?_
        refine gx_getF C G rfl (fX1_o hV) (fo0_1 (fX1_c hV)) (fX1_forged hV) uw_93 (fun _ h9 => h9) dX1_findFault_35 ?_
        refine gx_iload_n C hl dX1_findFault_38 rfl ?_
        obtain ⟨h18, h⟩ := h
        refine gx_iald C G rfl (fX1_forged_l hV) (fX1_forged_t hV) ry2 h18.1 (ixl (fX1_forged_n hV) h18.2) dX1_findFault_39 ?_
        have r19 := G.r (o + 2) (Int.toNat y2)
        refine gx_callV C G hl hml (c_X5_leastBroken l D cy ad (fX1_checked_s hV) vx1 r15 r17 r19 h) rfl (fX5_o (fX1_checked_s hV)) (by rw [(fX5_c (fX1_checked_s hV))]; rfl) (by rw [(fX5_c (fX1_checked_s hV))]; decide) rfl uw_716 uw_713 uw_714 uw_715 uw_2 hd_X5_leastBroken ⟨Nat.le_of_ble_eq_true rfl, Nat.le_of_ble_eq_true rfl⟩ ⟨Nat.zero_le _, Nat.zero_le _⟩ rfl rfl (hw_le ad [] rfl (Nat.le_of_ble_eq_true rfl)) dX1_findFault_40 (kkI (fun t21 S20 H locs rt21 h G => ?_))
        refine gx_istore_n C hl dX1_findFault_43 (Nat.le_of_ble_eq_true rfl) (PL' := [some (.inr (some o)), some (.inr x1), some (.inl y2), some (.inl t21)]) rfl (fun ls hl => ?_)
        refine gx_iload_n C hl dX1_findFault_44 rfl ?_
        refine gx_bipush C dX1_findFault_45 (by decide) ?_
        refine gx_icmp_ne (tgt := 74) C rt21 (show rng (-2) by decide) dX1_findFault_47 (by decide) (fun c22 => ?_) (fun c22 => ?_)
        · have h := h.1 c22
          exact b74 (B_X1_findFault_9 V o x1 Q n) ih y2 t21 S20 H locs ls ry2 rt21 hl G h
        · have h := h.2 c22
          refine gx_iload_n C hl dX1_findFault_50 rfl ?_
          refine gx_if_le (tgt := 74) C ry2 dX1_findFault_51 (by decide) (fun c23 => ?_) (fun c23 => ?_)
          · have h := h.1 c23
            exact b74 (B_X1_findFault_9 V o x1 Q n) ih y2 t21 S20 H locs ls ry2 rt21 hl G h
          · have h := h.2 c23
            refine gx_aload_n C hl dX1_findFault_54 rfl ?_
            refine gx_getF C G rfl (fX1_o hV) (fo0_1 (fX1_c hV)) (fX1_forged hV) uw_93 (fun _ h9 => h9) dX1_findFault_55 ?_
            refine gx_iload_n C hl dX1_findFault_58 rfl ?_
            obtain ⟨h24, h⟩ := h
            refine gx_iald C G rfl (fX1_forged_l hV) (fX1_forged_t hV) ry2 h24.1 (ixl (fX1_forged_n hV) h24.2) dX1_findFault_59 ?_
            have r25 := G.r (o + 2) (Int.toNat y2)
            refine gx_aload_n C hl dX1_findFault_60 rfl ?_
            refine gx_getF C G rfl (fX1_o hV) (fo0_1 (fX1_c hV)) (fX1_forged hV) uw_93 (fun _ h9 => h9) dX1_findFault_61 ?_
            refine gx_iload_n C hl dX1_findFault_64 rfl ?_
            refine gx_iconst C dX1_findFault_65 ?_
            obtain ⟨h26, h⟩ := h
            refine gx_isub C dX1_findFault_66 ?_
            obtain ⟨h27, h⟩ := h
            refine gx_iald C G rfl (fX1_forged_l hV) (fX1_forged_t hV) h26 h27.1 (ixl (fX1_forged_n hV) h27.2) dX1_findFault_67 ?_
            have r28 := G.r (o + 2) (Int.toNat (y2 - 1))
            refine gx_icmp_gt (tgt := 74) C r25 r28 dX1_findFault_68 (by decide) (fun c29 => ?_) (fun c29 => ?_)
            · have h := h.1 c29
              exact b74 (B_X1_findFault_9 V o x1 Q n) ih y2 t21 S20 H locs ls ry2 rt21 hl G h
            · have h := h.2 c29
              refine gx_bipush C dX1_findFault_71 (by decide) ?_
              refine gx_istore_n C hl dX1_findFault_73 (Nat.le_of_ble_eq_true rfl) (PL' := [some (.inr (some o)), some (.inr x1), some (.inl y2), some (.inl 13)]) rfl (fun ls hl => ?_)
              exact b74 (B_X1_findFault_9 V o x1 Q n) ih y2 13 S20 H locs ls ry2 (show rng 13 by decide) hl G h
  clear eA
  unfold PT_X1_findFault at h
  refine gx_aload_n C hl dX1_findFault_0 rfl ?_
  refine gx_getF C G rfl (fX1_o hV) (fo0_6 (fX1_c hV)) (fX1_checked hV) uw_103 (fun _ h9 => h9) dX1_findFault_1 ?_
  refine gx_callVN (host := RX11) C G hl hml (c_X5_forget l D cy ad (fX1_checked_s hV) h) rfl (fX5_o (fX1_checked_s hV)) (by rw [(fX5_c (fX1_checked_s hV))]; rfl) (by rw [(fX5_c (fX1_checked_s hV))]; decide) rfl uw_40 (by decide +kernel) uw_39 up_0 uw_2 hd_X5_forget ⟨Nat.le_of_ble_eq_true rfl, Nat.le_of_ble_eq_true rfl⟩ ⟨Nat.zero_le _, Nat.zero_le _⟩ rfl rfl (hw_le ad [] rfl (Nat.le_of_ble_eq_true rfl)) dX1_findFault_4 (kkV (fun S30 H locs h G => ?_))
  refine gx_iconst C dX1_findFault_7 ?_
  refine gx_istore_n C hl dX1_findFault_8 (Nat.le_of_ble_eq_true rfl) (PL' := [some (.inr (some o)), some (.inr x1), some (.inl 0), none]) rfl (fun ls hl => ?_)
  obtain ⟨n9, h⟩ := h
  exact b9 n9 0 S30 H locs ls (show rng 0 by decide) hl G h
def PT_X11_forge (V : Vt) (o : Nat) (x1 : Int) (x2 : Int) (S : Me) (Q : Int → Me → Prop) : Prop := PT_X1_has V (o + 10) x1 S (fun t2 S1 => ((t2 = 0 → Q (-1) S1) ∧ (¬ t2 = 0 → PT_X11_isWithin V x2 1 1000000 S1 (fun t5 S4 => ((¬ t5 = 0 → (0 ≤ x1 ∧ x1 < 400) ∧ (0 ≤ x1 ∧ x1 < 400) ∧ ∀ S10 : Me, S10 = sI S4 ((o + 10) + 2) (Int.toNat x1) x2 → Q (S4.1 ((o + 10) + 2) (Int.toNat x1)) S10) ∧ (t5 = 0 → Q (-1) S4))))))
theorem hd_X11_forge : yX11_forge.cls ≠ "java/lang/invoke/MethodHandle" ∧ yX11_forge.cls ≠ "java/lang/invoke/VarHandle" ∧ (parseMethodDescriptor yX11_forge.desc).map (fun d => d.parameters.length) = some 2 := by decide +kernel
set_option maxHeartbeats 4000000 in
set_option maxRecDepth 100000 in
theorem c_X11_forge (l : Launch) (D : va_G) (cy : ClassId × ClassId × ClassId × ClassId) (ad : Nat → Nat) {V : Vt} {S : Me} {o : Nat} {x1 : Int} {x2 : Int} (hV : fX11 V o) (rx1 : rng x1) (rx2 : rng x2) {Q : Int → Me → Prop} (h : PT_X11_forge V o x1 x2 S Q) : KM l D cy yX11_forge cX11_forge 4 (Option.some Jvm.ClassFile.FieldType.int) 1 22 ad V S [.inr (some o), .inl x1, .inl x2] (qI Q) := by
  refine KM.of (by decide) rfl (Nat.le_of_ble_eq_true rfl) (own := RX11) (fun p e s m args below meth c A ls H locs eA C hret hml hmn hl G => ?_)
  have hl : lo ad ls [some (.inr (some o)), some (.inl x1), some (.inl x2), none] := hl
  clear eA
  unfold PT_X11_forge at h
  refine gx_aload_n C hl dX11_forge_0 rfl ?_
  refine gx_getF C G rfl (fX11_o hV) (fo10_2 (fX11_c hV)) (fX11_commandLog hV) uw_217 (fun _ h9 => h9) dX11_forge_1 ?_
  refine gx_iload_n C hl dX11_forge_4 rfl ?_
  refine gx_callV C G hl hml (c_X1_has l D cy ad (fX11_commandLog_s hV) rx1 h) rfl (fX1_o (fX11_commandLog_s hV)) (by rw [(fX1_c (fX11_commandLog_s hV))]; rfl) (by rw [(fX1_c (fX11_commandLog_s hV))]; decide) rfl uw_698 uw_695 uw_696 uw_697 uw_4 hd_X1_has ⟨Nat.le_of_ble_eq_true rfl, Nat.le_of_ble_eq_true rfl⟩ ⟨Nat.zero_le _, Nat.zero_le _⟩ rfl rfl (hw_le ad [] rfl (Nat.le_of_ble_eq_true rfl)) dX11_forge_5 (kkI (fun t2 S1 H locs rt2 h G => ?_))
  refine gx_if_eq (tgt := 22) C rt2 dX11_forge_8 (by decide) (fun c3 => ?_) (fun c3 => ?_)
  · have h := h.1 c3
    refine gx_iconst C dX11_forge_22 ?_
    exact gx_iret C G hret (show rng (-1) by decide) h dX11_forge_23
  · have h := h.2 c3
    refine gx_iload_n C hl dX11_forge_11 rfl ?_
    refine gx_iconst C dX11_forge_12 ?_
    refine gx_ldcw (n := 1000000) C uw_703 dX11_forge_13 ?_
    refine gx_callS C G hl hml (c_X11_isWithin l D cy ad rx2 (show rng 1 by decide) (show rng 1000000 by decide) h) uw_270 uw_268 uw_269 uw_1 hd_X11_isWithin ⟨Nat.le_of_ble_eq_true rfl, Nat.le_of_ble_eq_true rfl⟩ ⟨Nat.zero_le _, Nat.zero_le _⟩ rfl rfl (hw_le ad [] rfl (Nat.le_of_ble_eq_true rfl)) dX11_forge_16 (kkI (fun t5 S4 H locs rt5 h G => ?_))
    refine gx_if_ne (tgt := 24) C rt5 dX11_forge_19 (by decide) (fun c6 => ?_) (fun c6 => ?_)
    · have h := h.1 c6
      refine gx_aload_n C hl dX11_forge_24 rfl ?_
      refine gx_getF C G rfl (fX11_o hV) (fo10_2 (fX11_c hV)) (fX11_commandLog hV) uw_217 (fun _ h9 => h9) dX11_forge_25 ?_
      refine gx_getF C G rfl (fX1_o (fX11_commandLog_s hV)) (fo0_1 (fX1_c (fX11_commandLog_s hV))) (fX1_forged (fX11_commandLog_s hV)) uw_94 (fun _ h9 => h9) dX11_forge_28 ?_
      refine gx_iload_n C hl dX11_forge_31 rfl ?_
      obtain ⟨h7, h⟩ := h
      refine gx_iald C G rfl (fX1_forged_l (fX11_commandLog_s hV)) (fX1_forged_t (fX11_commandLog_s hV)) rx1 h7.1 (ixl (fX1_forged_n (fX11_commandLog_s hV)) h7.2) dX11_forge_32 ?_
      have r8 := G.r ((o + 10) + 2) (Int.toNat x1)
      refine gx_istore_n C hl dX11_forge_33 (Nat.le_of_ble_eq_true rfl) (PL' := [some (.inr (some o)), some (.inl x1), some (.inl x2), some (.inl (S4.1 ((o + 10) + 2) (Int.toNat x1)))]) rfl (fun ls hl => ?_)
      refine gx_aload_n C hl dX11_forge_34 rfl ?_
      refine gx_getF C G rfl (fX11_o hV) (fo10_2 (fX11_c hV)) (fX11_commandLog hV) uw_217 (fun _ h9 => h9) dX11_forge_35 ?_
      refine gx_getF C G rfl (fX1_o (fX11_commandLog_s hV)) (fo0_1 (fX1_c (fX11_commandLog_s hV))) (fX1_forged (fX11_commandLog_s hV)) uw_94 (fun _ h9 => h9) dX11_forge_38 ?_
      refine gx_iload_n C hl dX11_forge_41 rfl ?_
      refine gx_iload_n C hl dX11_forge_42 rfl ?_
      obtain ⟨h9, h⟩ := h
      refine gx_iast C G rfl (fX1_forged_l (fX11_commandLog_s hV)) (fX1_forged_t (fX11_commandLog_s hV)) rx1 rx2 h9.1 (ixl (fX1_forged_n (fX11_commandLog_s hV)) h9.2) dX11_forge_43 (fun H locs G => ?_)
      obtain ⟨S10, eS10⟩ : ∃ q9 : Me, q9 = sI S4 ((o + 10) + 2) (Int.toNat x1) x2 := ⟨_, rfl⟩
      have h := h S10 eS10
      rw [← eS10] at G
      refine gx_iload_n C hl dX11_forge_44 rfl ?_
      exact gx_iret C G hret r8 h dX11_forge_45
    · have h := h.2 c6
      refine gx_iconst C dX11_forge_22 ?_
      exact gx_iret C G hret (show rng (-1) by decide) h dX11_forge_23
def PT_X11_check (V : Vt) (o : Nat) (S : Me) (Q : Int → Me → Prop) : Prop := PT_X1_findFault V (o + 10) (some (o + 1)) S (fun t2 S1 => Q t2 S1)
theorem hd_X11_check : yX11_check.cls ≠ "java/lang/invoke/MethodHandle" ∧ yX11_check.cls ≠ "java/lang/invoke/VarHandle" ∧ (parseMethodDescriptor yX11_check.desc).map (fun d => d.parameters.length) = some 0 := by decide +kernel
set_option maxHeartbeats 4000000 in
set_option maxRecDepth 100000 in
theorem c_X11_check (l : Launch) (D : va_G) (cy : ClassId × ClassId × ClassId × ClassId) (ad : Nat → Nat) {V : Vt} {S : Me} {o : Nat} (hV : fX11 V o) {Q : Int → Me → Prop} (h : PT_X11_check V o S Q) : KM l D cy yX11_check cX11_check 1 (Option.some Jvm.ClassFile.FieldType.int) 3 72 ad V S [.inr (some o)] (qI Q) := by
  refine KM.of (by decide) rfl (Nat.le_of_ble_eq_true rfl) (own := RX11) (fun p e s m args below meth c A ls H locs eA C hret hml hmn hl G => ?_)
  have hl : lo ad ls [some (.inr (some o))] := hl
  clear eA
  unfold PT_X11_check at h
  refine gx_aload_n C hl dX11_check_0 rfl ?_
  refine gx_getF C G rfl (fX11_o hV) (fo10_2 (fX11_c hV)) (fX11_commandLog hV) uw_217 (fun _ h9 => h9) dX11_check_1 ?_
  refine gx_aload_n C hl dX11_check_4 rfl ?_
  refine gx_getF C G rfl (fX11_o hV) (fo10_0 (fX11_c hV)) (fX11_times hV) uw_215 (fun _ h9 => h9) dX11_check_5 ?_
  refine gx_callV C G hl hml (c_X1_findFault l D cy ad (fX11_commandLog_s hV) (vsome (fX11_times_l hV)) h) rfl (fX1_o (fX11_commandLog_s hV)) (by rw [(fX1_c (fX11_commandLog_s hV))]; rfl) (by rw [(fX1_c (fX11_commandLog_s hV))]; decide) rfl uw_711 uw_708 uw_709 uw_710 uw_4 hd_X1_findFault ⟨Nat.le_of_ble_eq_true rfl, Nat.le_of_ble_eq_true rfl⟩ ⟨Nat.zero_le _, Nat.zero_le _⟩ rfl rfl (hw_le ad [] rfl (Nat.le_of_ble_eq_true rfl)) dX11_check_8 (kkI (fun t2 S1 H locs rt2 h G => ?_))
  exact gx_iret C G hret rt2 h dX11_check_11
def B_X11_copy_42 (V : Vt) (o : Nat) (x1 : Int) (x2 : Int) (x3 : Int) (x4 : Int) (x5 : Int) (S : Me) (Q : Int → Me → Prop) : Prop := Q (-11) S
def B_X11_copy_82 (V : Vt) (o : Nat) (x1 : Int) (x2 : Int) (x3 : Int) (x4 : Int) (x5 : Int) (S : Me) (Q : Int → Me → Prop) : Prop := Q (-12) S
def B_X11_copy_108 (V : Vt) (o : Nat) (x1 : Int) (x2 : Int) (x3 : Int) (x4 : Int) (x5 : Int) (S : Me) (Q : Int → Me → Prop) : Prop := Q (-13) S
def PT_X11_copy (V : Vt) (o : Nat) (x1 : Int) (x2 : Int) (x3 : Int) (x4 : Int) (x5 : Int) (S : Me) (Q : Int → Me → Prop) : Prop := PT_X11_findShelf V o x1 S (fun t2 S1 => PT_X11_findShelf V o x3 S1 (fun t4 S3 => ((t2 = none → Q (-1) S3) ∧ (¬ t2 = none → ((¬ t4 = none → ∃ z9 : Nat, t2 = some z9 ∧ V.2.1 z9 = 7 ∧ PT_X8_isEmpty V z9 S3 (fun t8 S7 => ((¬ t8 = 0 → B_X11_copy_42 V o x1 x2 x3 x4 x5 S7 Q) ∧ (t8 = 0 → ∃ z13 : Nat, t4 = some z13 ∧ V.2.1 z13 = 7 ∧ PT_X8_isEmpty V z13 S7 (fun t12 S11 => ((t12 = 0 → (((S11.2 z9 1) = none → B_X11_copy_82 V o x1 x2 x3 x4 x5 S11 Q) ∧ (¬ (S11.2 z9 1) = none → (((S11.2 z13 1) = none → B_X11_copy_82 V o x1 x2 x3 x4 x5 S11 Q) ∧ (¬ (S11.2 z13 1) = none → (((S11.1 z9 2) = (S11.1 z13 2) → PT_X11_hasSpan V (S11.2 z9 1) x2 x5 S11 (fun t23 S22 => ((t23 = 0 → B_X11_copy_108 V o x1 x2 x3 x4 x5 S22 Q) ∧ (¬ t23 = 0 → PT_X11_hasSpan V (S11.2 z13 1) x4 x5 S22 (fun t26 S25 => ((¬ t26 = 0 → ∃ z28 : Nat, (S11.2 z9 1) = some z28 ∧ V.2.1 z28 = 12 ∧ ∃ z29 : Nat, (S11.2 z13 1) = some z29 ∧ V.2.1 z29 = 12 ∧ (0 ≤ x2 ∧ 0 ≤ x4 ∧ 0 ≤ x5 ∧ x2 + x5 ≤ (V.2.2.1 z28 : Int) ∧ x4 + x5 ≤ (V.2.2.1 z29 : Int)) ∧ ∀ S31 : Me, S31 = cpI S25 z28 (Int.toNat x2) z29 (Int.toNat x4) (Int.toNat x5) → Q x5 S31) ∧ (t26 = 0 → B_X11_copy_108 V o x1 x2 x3 x4 x5 S25 Q))))))) ∧ (¬ (S11.1 z9 2) = (S11.1 z13 2) → B_X11_copy_82 V o x1 x2 x3 x4 x5 S11 Q))))))) ∧ (¬ t12 = 0 → B_X11_copy_42 V o x1 x2 x3 x4 x5 S11 Q))))))) ∧ (t4 = none → Q (-1) S3))))))
theorem hd_X11_copy : yX11_copy.cls ≠ "java/lang/invoke/MethodHandle" ∧ yX11_copy.cls ≠ "java/lang/invoke/VarHandle" ∧ (parseMethodDescriptor yX11_copy.desc).map (fun d => d.parameters.length) = some 5 := by decide +kernel
set_option maxHeartbeats 4000000 in
set_option maxRecDepth 100000 in
theorem c_X11_copy (l : Launch) (D : va_G) (cy : ClassId × ClassId × ClassId × ClassId) (ad : Nat → Nat) {V : Vt} {S : Me} {o : Nat} {x1 : Int} {x2 : Int} {x3 : Int} {x4 : Int} {x5 : Int} (hV : fX11 V o) (rx1 : rng x1) (rx2 : rng x2) (rx3 : rng x3) (rx4 : rng x4) (rx5 : rng x5) {Q : Int → Me → Prop} (h : PT_X11_copy V o x1 x2 x3 x4 x5 S Q) : KM l D cy yX11_copy cX11_copy 10 (Option.some Jvm.ClassFile.FieldType.int) 2 44 ad V S [.inr (some o), .inl x1, .inl x2, .inl x3, .inl x4, .inl x5] (qI Q) := by
  refine KM.of (by decide) rfl (Nat.le_of_ble_eq_true rfl) (own := RX11) (fun p e s m args below meth c A ls H locs eA C hret hml hmn hl G => ?_)
  have hl : lo ad ls [some (.inr (some o)), some (.inl x1), some (.inl x2), some (.inl x3), some (.inl x4), some (.inl x5), none, none, none, none] := hl
  have b42 : ∀ (S : Me) (H : Heap) (locs : List Loc) (ls : Array Slot), lo ad ls [some (.inr (some o)), some (.inl x1), some (.inl x2), some (.inl x3), some (.inl x4), some (.inl x5), none, none, none, none] → Gy D cy A s.heap ad V S H locs → B_X11_copy_42 V o x1 x2 x3 x4 x5 S Q → W p l e (rmx 2 44) s m args below meth c H locs 0 0 (qm below D cy ad V A args s (qI Q)) (F0 m 42 ls []) := by
    intro S H locs ls hl G h
    unfold B_X11_copy_42 at h
    refine gx_bipush C dX11_copy_42 (by decide) ?_
    exact gx_iret C G hret (show rng (-11) by decide) h dX11_copy_44
  have b82 : ∀ (S : Me) (H : Heap) (locs : List Loc) (ls : Array Slot), lo ad ls [some (.inr (some o)), some (.inl x1), some (.inl x2), some (.inl x3), some (.inl x4), some (.inl x5), none, none, none, none] → Gy D cy A s.heap ad V S H locs → B_X11_copy_82 V o x1 x2 x3 x4 x5 S Q → W p l e (rmx 2 44) s m args below meth c H locs 0 0 (qm below D cy ad V A args s (qI Q)) (F0 m 82 ls []) := by
    intro S H locs ls hl G h
    unfold B_X11_copy_82 at h
    refine gx_bipush C dX11_copy_82 (by decide) ?_
    exact gx_iret C G hret (show rng (-12) by decide) h dX11_copy_84
  have b108 : ∀ (S : Me) (H : Heap) (locs : List Loc) (ls : Array Slot), lo ad ls [some (.inr (some o)), some (.inl x1), some (.inl x2), some (.inl x3), some (.inl x4), some (.inl x5), none, none, none, none] → Gy D cy A s.heap ad V S H locs → B_X11_copy_108 V o x1 x2 x3 x4 x5 S Q → W p l e (rmx 2 44) s m args below meth c H locs 0 0 (qm below D cy ad V A args s (qI Q)) (F0 m 108 ls []) := by
    intro S H locs ls hl G h
    unfold B_X11_copy_108 at h
    refine gx_bipush C dX11_copy_108 (by decide) ?_
    exact gx_iret C G hret (show rng (-13) by decide) h dX11_copy_110
  clear eA
  unfold PT_X11_copy at h
  refine gx_aload_n C hl dX11_copy_0 rfl ?_
  refine gx_iload_n C hl dX11_copy_1 rfl ?_
  refine gx_callV C G hl hml (c_X11_findShelf l D cy ad hV rx1 h) rfl (fX11_o hV) (by rw [(fX11_c hV)]; rfl) (by rw [(fX11_c hV)]; decide) rfl uw_748 uw_745 uw_747 up_13 uw_1 hd_X11_findShelf ⟨Nat.le_of_ble_eq_true rfl, Nat.le_of_ble_eq_true rfl⟩ ⟨Nat.zero_le _, Nat.zero_le _⟩ rfl rfl (hw_le ad [] rfl (Nat.le_of_ble_eq_true rfl)) dX11_copy_2 (kkR (fun t2 S1 H locs vt2 h G => ?_))
  refine gx_astore C hl dX11_copy_5 (Nat.le_of_ble_eq_true rfl) (PL' := [some (.inr (some o)), some (.inl x1), some (.inl x2), some (.inl x3), some (.inl x4), some (.inl x5), some (.inr t2), none, none, none]) rfl (fun ls hl => ?_)
  refine gx_aload_n C hl dX11_copy_7 rfl ?_
  refine gx_iload_n C hl dX11_copy_8 rfl ?_
  refine gx_callV C G hl hml (c_X11_findShelf l D cy ad hV rx3 h) rfl (fX11_o hV) (by rw [(fX11_c hV)]; rfl) (by rw [(fX11_c hV)]; decide) rfl uw_748 uw_745 uw_747 up_13 uw_1 hd_X11_findShelf ⟨Nat.le_of_ble_eq_true rfl, Nat.le_of_ble_eq_true rfl⟩ ⟨Nat.zero_le _, Nat.zero_le _⟩ rfl rfl (hw_le ad [] rfl (Nat.le_of_ble_eq_true rfl)) dX11_copy_9 (kkR (fun t4 S3 H locs vt4 h G => ?_))
  refine gx_astore C hl dX11_copy_12 (Nat.le_of_ble_eq_true rfl) (PL' := [some (.inr (some o)), some (.inl x1), some (.inl x2), some (.inl x3), some (.inl x4), some (.inl x5), some (.inr t2), some (.inr t4), none, none]) rfl (fun ls hl => ?_)
  refine gx_aload C hl dX11_copy_14 rfl ?_
  refine gx_ifnull (tgt := 24) C dX11_copy_16 (by decide) (fun c5 => ?_) (fun c5 => ?_)
  · have h := h.1 c5
    refine gx_iconst C dX11_copy_24 ?_
    exact gx_iret C G hret (show rng (-1) by decide) h dX11_copy_25
  · have h := h.2 c5
    refine gx_aload C hl dX11_copy_19 rfl ?_
    refine gx_ifnonnull (tgt := 26) C dX11_copy_21 (by decide) (fun c6 => ?_) (fun c6 => ?_)
    · have h := h.1 c6
      refine gx_aload C hl dX11_copy_26 rfl ?_
      obtain ⟨z9, hz9, tz9, h⟩ := h
      have lz9 := (vt2 z9 hz9)
      refine gx_callV C G hl hml (c_X8_isEmpty l D cy ad lz9 tz9 h) hz9 lz9 (by rw [tz9]; rfl) (by rw [tz9]; decide) rfl uw_789 uw_786 uw_787 uw_788 uw_8 hd_X8_isEmpty ⟨Nat.le_of_ble_eq_true rfl, Nat.le_of_ble_eq_true rfl⟩ ⟨Nat.zero_le _, Nat.zero_le _⟩ rfl rfl (hw_le ad [] rfl (Nat.le_of_ble_eq_true rfl)) dX11_copy_28 (kkI (fun t8 S7 H locs rt8 h G => ?_))
      refine gx_if_ne (tgt := 42) C rt8 dX11_copy_31 (by decide) (fun c10 => ?_) (fun c10 => ?_)
      · have h := h.1 c10
        exact b42 S7 H locs ls (lo_mask (bs := [true, true, true, true, true, true, false, false, false, false]) hl rfl rfl) G h
      · have h := h.2 c10
        refine gx_aload C hl dX11_copy_34 rfl ?_
        obtain ⟨z13, hz13, tz13, h⟩ := h
        have lz13 := (vt4 z13 hz13)
        refine gx_callV C G hl hml (c_X8_isEmpty l D cy ad lz13 tz13 h) hz13 lz13 (by rw [tz13]; rfl) (by rw [tz13]; decide) rfl uw_789 uw_786 uw_787 uw_788 uw_8 hd_X8_isEmpty ⟨Nat.le_of_ble_eq_true rfl, Nat.le_of_ble_eq_true rfl⟩ ⟨Nat.zero_le _, Nat.zero_le _⟩ rfl rfl (hw_le ad [] rfl (Nat.le_of_ble_eq_true rfl)) dX11_copy_36 (kkI (fun t12 S11 H locs rt12 h G => ?_))
        refine gx_if_eq (tgt := 45) C rt12 dX11_copy_39 (by decide) (fun c14 => ?_) (fun c14 => ?_)
        · have h := h.1 c14
          refine gx_aload C hl dX11_copy_45 rfl ?_
          refine gx_getP C G hz9 lz9 (fo7_1 tz9) uw_205 (fun _ h9 => h9) dX11_copy_47 ?_
          have v15 := G.v z9 1
          refine gx_astore C hl dX11_copy_50 (Nat.le_of_ble_eq_true rfl) (PL' := [some (.inr (some o)), some (.inl x1), some (.inl x2), some (.inl x3), some (.inl x4), some (.inl x5), some (.inr t2), some (.inr t4), some (.inr (S11.2 z9 1)), none]) rfl (fun ls hl => ?_)
          refine gx_aload C hl dX11_copy_52 rfl ?_
          refine gx_getP C G hz13 lz13 (fo7_1 tz13) uw_205 (fun _ h9 => h9) dX11_copy_54 ?_
          have v16 := G.v z13 1
          refine gx_astore C hl dX11_copy_57 (Nat.le_of_ble_eq_true rfl) (PL' := [some (.inr (some o)), some (.inl x1), some (.inl x2), some (.inl x3), some (.inl x4), some (.inl x5), some (.inr t2), some (.inr t4), some (.inr (S11.2 z9 1)), some (.inr (S11.2 z13 1))]) rfl (fun ls hl => ?_)
          refine gx_aload C hl dX11_copy_59 rfl ?_
          refine gx_ifnull (tgt := 82) C dX11_copy_61 (by decide) (fun c17 => ?_) (fun c17 => ?_)
          · have h := h.1 c17
            exact b82 S11 H locs ls (lo_mask (bs := [true, true, true, true, true, true, false, false, false, false]) hl rfl rfl) G h
          · have h := h.2 c17
            refine gx_aload C hl dX11_copy_64 rfl ?_
            refine gx_ifnull (tgt := 82) C dX11_copy_66 (by decide) (fun c18 => ?_) (fun c18 => ?_)
            · have h := h.1 c18
              exact b82 S11 H locs ls (lo_mask (bs := [true, true, true, true, true, true, false, false, false, false]) hl rfl rfl) G h
            · have h := h.2 c18
              refine gx_aload C hl dX11_copy_69 rfl ?_
              refine gx_getZ C G hz9 lz9 (fo7_2 tz9) uw_207 (fun _ h9 => h9) dX11_copy_71 ?_
              have r19 := G.r z9 2
              refine gx_aload C hl dX11_copy_74 rfl ?_
              refine gx_getZ C G hz13 lz13 (fo7_2 tz13) uw_207 (fun _ h9 => h9) dX11_copy_76 ?_
              have r20 := G.r z13 2
              refine gx_icmp_eq (tgt := 85) C r19 r20 dX11_copy_79 (by decide) (fun c21 => ?_) (fun c21 => ?_)
              · have h := h.1 c21
                refine gx_aload C hl dX11_copy_85 rfl ?_
                refine gx_iload_n C hl dX11_copy_87 rfl ?_
                refine gx_iload C hl dX11_copy_88 rfl ?_
                refine gx_callS C G hl hml (c_X11_hasSpan l D cy ad v15 rx2 rx5 h) uw_792 uw_790 uw_791 uw_1 hd_X11_hasSpan ⟨Nat.le_of_ble_eq_true rfl, Nat.le_of_ble_eq_true rfl⟩ ⟨Nat.zero_le _, Nat.zero_le _⟩ rfl rfl (hw_le ad [] rfl (Nat.le_of_ble_eq_true rfl)) dX11_copy_90 (kkI (fun t23 S22 H locs rt23 h G => ?_))
                refine gx_if_eq (tgt := 108) C rt23 dX11_copy_93 (by decide) (fun c24 => ?_) (fun c24 => ?_)
                · have h := h.1 c24
                  exact b108 S22 H locs ls (lo_mask (bs := [true, true, true, true, true, true, false, false, false, false]) hl rfl rfl) G h
                · have h := h.2 c24
                  refine gx_aload C hl dX11_copy_96 rfl ?_
                  refine gx_iload C hl dX11_copy_98 rfl ?_
                  refine gx_iload C hl dX11_copy_100 rfl ?_
                  refine gx_callS C G hl hml (c_X11_hasSpan l D cy ad v16 rx4 rx5 h) uw_792 uw_790 uw_791 uw_1 hd_X11_hasSpan ⟨Nat.le_of_ble_eq_true rfl, Nat.le_of_ble_eq_true rfl⟩ ⟨Nat.zero_le _, Nat.zero_le _⟩ rfl rfl (hw_le ad [] rfl (Nat.le_of_ble_eq_true rfl)) dX11_copy_102 (kkI (fun t26 S25 H locs rt26 h G => ?_))
                  refine gx_if_ne (tgt := 111) C rt26 dX11_copy_105 (by decide) (fun c27 => ?_) (fun c27 => ?_)
                  · have h := h.1 c27
                    refine gx_aload C hl dX11_copy_111 rfl ?_
                    refine gx_iload_n C hl dX11_copy_113 rfl ?_
                    refine gx_aload C hl dX11_copy_114 rfl ?_
                    refine gx_iload C hl dX11_copy_116 rfl ?_
                    refine gx_iload C hl dX11_copy_118 rfl ?_
                    obtain ⟨z28, hz28, tz28, h⟩ := h
                    have lz28 := (v15 z28 hz28)
                    obtain ⟨z29, hz29, tz29, h⟩ := h
                    have lz29 := (v16 z29 hz29)
                    obtain ⟨h30, h⟩ := h
                    refine gx_copyi C G hl hml hz28 lz28 tz28 hz29 lz29 tz29 rx2 rx4 rx5 h30.1 h30.2.1 h30.2.2.1 h30.2.2.2.1 h30.2.2.2.2 uw_194 ⟨Nat.le_of_ble_eq_true rfl, Nat.le_of_ble_eq_true rfl⟩ (hw_le ad [] rfl (Nat.le_of_ble_eq_true rfl)) dX11_copy_120 (fun H locs G => ?_)
                    obtain ⟨S31, eS31⟩ : ∃ q9 : Me, q9 = cpI S25 z28 (Int.toNat x2) z29 (Int.toNat x4) (Int.toNat x5) := ⟨_, rfl⟩
                    have h := h S31 eS31
                    rw [← eS31] at G
                    refine gx_iload C hl dX11_copy_123 rfl ?_
                    exact gx_iret C G hret rx5 h dX11_copy_125
                  · have h := h.2 c27
                    exact b108 S25 H locs ls (lo_mask (bs := [true, true, true, true, true, true, false, false, false, false]) hl rfl rfl) G h
              · have h := h.2 c21
                exact b82 S11 H locs ls (lo_mask (bs := [true, true, true, true, true, true, false, false, false, false]) hl rfl rfl) G h
        · have h := h.2 c14
          exact b42 S11 H locs ls (lo_mask (bs := [true, true, true, true, true, true, false, false, false, false]) hl rfl rfl) G h
    · have h := h.2 c6
      refine gx_iconst C dX11_copy_24 ?_
      exact gx_iret C G hret (show rng (-1) by decide) h dX11_copy_25
def PT_X0_heft (V : Vt) (o : Nat) (S : Me) (Q : Int → Me → Prop) : Prop := (rng (5 + (S.1 o 1))) ∧ Q (5 + (S.1 o 1)) S
theorem hd_X0_heft : yX0_heft.cls ≠ "java/lang/invoke/MethodHandle" ∧ yX0_heft.cls ≠ "java/lang/invoke/VarHandle" ∧ (parseMethodDescriptor yX0_heft.desc).map (fun d => d.parameters.length) = some 0 := by decide +kernel
set_option maxHeartbeats 4000000 in
set_option maxRecDepth 100000 in
theorem c_X0_heft (l : Launch) (D : va_G) (cy : ClassId × ClassId × ClassId × ClassId) (ad : Nat → Nat) {V : Vt} {S : Me} {o : Nat} (ho : o < V.1) (ht : isA (V.2.1 o)) {Q : Int → Me → Prop} (h : PT_X0_heft V o S Q) : KM l D cy yX0_heft cX0_heft 1 (Option.some Jvm.ClassFile.FieldType.int) 0 0 ad V S [.inr (some o)] (qI Q) := by
  refine KM.of (by decide) rfl (Nat.le_of_ble_eq_true rfl) (own := RX0) (fun p e s m args below meth c A ls H locs eA C hret hml hmn hl G => ?_)
  have hl : lo ad ls [some (.inr (some o))] := hl
  clear eA
  unfold PT_X0_heft at h
  refine gx_iconst C dX0_heft_0 ?_
  refine gx_aload_n C hl dX0_heft_1 rfl ?_
  refine gx_getI C G rfl ho (foA_1 ht) uw_309 (fun _ h9 => h9) dX0_heft_2 ?_
  have r1 := G.r o 1
  obtain ⟨h2, h⟩ := h
  refine gx_iadd C dX0_heft_5 ?_
  exact gx_iret C G hret h2 h dX0_heft_6
def PT_X10_heft (V : Vt) (o : Nat) (S : Me) (Q : Int → Me → Prop) : Prop := PT_X0_heft V o S (fun t2 S1 => (rng (t2 + 20)) ∧ Q (t2 + 20) S1)
theorem hd_X10_heft : yX10_heft.cls ≠ "java/lang/invoke/MethodHandle" ∧ yX10_heft.cls ≠ "java/lang/invoke/VarHandle" ∧ (parseMethodDescriptor yX10_heft.desc).map (fun d => d.parameters.length) = some 0 := by decide +kernel
set_option maxHeartbeats 4000000 in
set_option maxRecDepth 100000 in
theorem c_X10_heft (l : Launch) (D : va_G) (cy : ClassId × ClassId × ClassId × ClassId) (ad : Nat → Nat) {V : Vt} {S : Me} {o : Nat} (ho : o < V.1) (ht : isW (V.2.1 o)) {Q : Int → Me → Prop} (h : PT_X10_heft V o S Q) : KM l D cy yX10_heft cX10_heft 1 (Option.some Jvm.ClassFile.FieldType.int) 1 20 ad V S [.inr (some o)] (qI Q) := by
  refine KM.of (by decide) rfl (Nat.le_of_ble_eq_true rfl) (own := RX10) (fun p e s m args below meth c A ls H locs eA C hret hml hmn hl G => ?_)
  have hl : lo ad ls [some (.inr (some o))] := hl
  clear eA
  unfold PT_X10_heft at h
  refine gx_aload_n C hl dX10_heft_0 rfl ?_
  refine gx_callSU C G hl hml (c_X0_heft l D cy ad ho (by have := ht; omega) h) rfl ho (by have := ht; omega) uw_822 uw_815 uw_804 uw_426 uw_803 uw_10 (by decide) hd_X0_heft ⟨Nat.le_of_ble_eq_true rfl, Nat.le_of_ble_eq_true rfl⟩ ⟨Nat.zero_le _, Nat.zero_le _⟩ rfl rfl (hw_le ad [] rfl (Nat.le_of_ble_eq_true rfl)) dX10_heft_1 (kkI (fun t2 S1 H locs rt2 h G => ?_))
  refine gx_bipush C dX10_heft_4 (by decide) ?_
  obtain ⟨h3, h⟩ := h
  refine gx_iadd C dX10_heft_6 ?_
  exact gx_iret C G hret h3 h dX10_heft_7
def PT_X2_heft (V : Vt) (o : Nat) (S : Me) (Q : Int → Me → Prop) : Prop := PT_X0_heft V o S (fun t2 S1 => (rng (t2 + 300)) ∧ Q (t2 + 300) S1)
theorem hd_X2_heft : yX2_heft.cls ≠ "java/lang/invoke/MethodHandle" ∧ yX2_heft.cls ≠ "java/lang/invoke/VarHandle" ∧ (parseMethodDescriptor yX2_heft.desc).map (fun d => d.parameters.length) = some 0 := by decide +kernel
set_option maxHeartbeats 4000000 in
set_option maxRecDepth 100000 in
theorem c_X2_heft (l : Launch) (D : va_G) (cy : ClassId × ClassId × ClassId × ClassId) (ad : Nat → Nat) {V : Vt} {S : Me} {o : Nat} (ho : o < V.1) (ht : V.2.1 o = 1) {Q : Int → Me → Prop} (h : PT_X2_heft V o S Q) : KM l D cy yX2_heft cX2_heft 1 (Option.some Jvm.ClassFile.FieldType.int) 1 20 ad V S [.inr (some o)] (qI Q) := by
  refine KM.of (by decide) rfl (Nat.le_of_ble_eq_true rfl) (own := RX2) (fun p e s m args below meth c A ls H locs eA C hret hml hmn hl G => ?_)
  have hl : lo ad ls [some (.inr (some o))] := hl
  clear eA
  unfold PT_X2_heft at h
  refine gx_aload_n C hl dX2_heft_0 rfl ?_
  refine gx_callSU C G hl hml (c_X0_heft l D cy ad ho (by have := ht; omega) h) rfl ho (by have := ht; omega) uw_822 uw_808 uw_804 uw_497 uw_803 uw_10 (by decide) hd_X0_heft ⟨Nat.le_of_ble_eq_true rfl, Nat.le_of_ble_eq_true rfl⟩ ⟨Nat.zero_le _, Nat.zero_le _⟩ rfl rfl (hw_le ad [] rfl (Nat.le_of_ble_eq_true rfl)) dX2_heft_1 (kkI (fun t2 S1 H locs rt2 h G => ?_))
  refine gx_sipush C dX2_heft_4 (by decide) ?_
  obtain ⟨h3, h⟩ := h
  refine gx_iadd C dX2_heft_7 ?_
  exact gx_iret C G hret h3 h dX2_heft_8
def PT_X3_heft (V : Vt) (o : Nat) (S : Me) (Q : Int → Me → Prop) : Prop := PT_X10_heft V o S (fun t2 S1 => (rng (t2 * 2)) ∧ Q (t2 * 2) S1)
theorem hd_X3_heft : yX3_heft.cls ≠ "java/lang/invoke/MethodHandle" ∧ yX3_heft.cls ≠ "java/lang/invoke/VarHandle" ∧ (parseMethodDescriptor yX3_heft.desc).map (fun d => d.parameters.length) = some 0 := by decide +kernel
set_option maxHeartbeats 4000000 in
set_option maxRecDepth 100000 in
theorem c_X3_heft (l : Launch) (D : va_G) (cy : ClassId × ClassId × ClassId × ClassId) (ad : Nat → Nat) {V : Vt} {S : Me} {o : Nat} (ho : o < V.1) (ht : V.2.1 o = 2) {Q : Int → Me → Prop} (h : PT_X3_heft V o S Q) : KM l D cy yX3_heft cX3_heft 1 (Option.some Jvm.ClassFile.FieldType.int) 2 40 ad V S [.inr (some o)] (qI Q) := by
  refine KM.of (by decide) rfl (Nat.le_of_ble_eq_true rfl) (own := RX3) (fun p e s m args below meth c A ls H locs eA C hret hml hmn hl G => ?_)
  have hl : lo ad ls [some (.inr (some o))] := hl
  clear eA
  unfold PT_X3_heft at h
  refine gx_aload_n C hl dX3_heft_0 rfl ?_
  refine gx_callSU C G hl hml (c_X10_heft l D cy ad ho (by have := ht; omega) h) rfl ho (by have := ht; omega) uw_814 uw_812 uw_1377 uw_452 uw_813 uw_12 (by decide) hd_X10_heft ⟨Nat.le_of_ble_eq_true rfl, Nat.le_of_ble_eq_true rfl⟩ ⟨Nat.zero_le _, Nat.zero_le _⟩ rfl rfl (hw_le ad [] rfl (Nat.le_of_ble_eq_true rfl)) dX3_heft_1 (kkI (fun t2 S1 H locs rt2 h G => ?_))
  refine gx_iconst C dX3_heft_4 ?_
  obtain ⟨h3, h⟩ := h
  refine gx_imul C dX3_heft_5 ?_
  exact gx_iret C G hret h3 h dX3_heft_6
def PT_X9_heft (V : Vt) (o : Nat) (S : Me) (Q : Int → Me → Prop) : Prop := PT_X10_heft V o S (fun t2 S1 => (rng (t2 * 2)) ∧ (rng ((t2 * 2) + 1)) ∧ Q ((t2 * 2) + 1) S1)
theorem hd_X9_heft : yX9_heft.cls ≠ "java/lang/invoke/MethodHandle" ∧ yX9_heft.cls ≠ "java/lang/invoke/VarHandle" ∧ (parseMethodDescriptor yX9_heft.desc).map (fun d => d.parameters.length) = some 0 := by decide +kernel
set_option maxHeartbeats 4000000 in
set_option maxRecDepth 100000 in
theorem c_X9_heft (l : Launch) (D : va_G) (cy : ClassId × ClassId × ClassId × ClassId) (ad : Nat → Nat) {V : Vt} {S : Me} {o : Nat} (ho : o < V.1) (ht : V.2.1 o = 8) {Q : Int → Me → Prop} (h : PT_X9_heft V o S Q) : KM l D cy yX9_heft cX9_heft 1 (Option.some Jvm.ClassFile.FieldType.int) 2 40 ad V S [.inr (some o)] (qI Q) := by
  refine KM.of (by decide) rfl (Nat.le_of_ble_eq_true rfl) (own := RX9) (fun p e s m args below meth c A ls H locs eA C hret hml hmn hl G => ?_)
  have hl : lo ad ls [some (.inr (some o))] := hl
  clear eA
  unfold PT_X9_heft at h
  refine gx_aload_n C hl dX9_heft_0 rfl ?_
  refine gx_callSU C G hl hml (c_X10_heft l D cy ad ho (by have := ht; omega) h) rfl ho (by have := ht; omega) uw_814 uw_820 uw_1377 uw_475 uw_813 uw_12 (by decide) hd_X10_heft ⟨Nat.le_of_ble_eq_true rfl, Nat.le_of_ble_eq_true rfl⟩ ⟨Nat.zero_le _, Nat.zero_le _⟩ rfl rfl (hw_le ad [] rfl (Nat.le_of_ble_eq_true rfl)) dX9_heft_1 (kkI (fun t2 S1 H locs rt2 h G => ?_))
  refine gx_iconst C dX9_heft_4 ?_
  obtain ⟨h3, h⟩ := h
  refine gx_imul C dX9_heft_5 ?_
  refine gx_iconst C dX9_heft_6 ?_
  obtain ⟨h4, h⟩ := h
  refine gx_iadd C dX9_heft_7 ?_
  exact gx_iret C G hret h4 h dX9_heft_8
def PV_heft (V : Vt) (o : Nat) (S : Me) (Q : Int → Me → Prop) : Prop := (V.2.1 o = 1 → PT_X2_heft V o S Q) ∧ (V.2.1 o = 2 → PT_X3_heft V o S Q) ∧ (V.2.1 o = 5 → PT_X0_heft V o S Q) ∧ (V.2.1 o = 8 → PT_X9_heft V o S Q) ∧ (V.2.1 o = 9 → PT_X10_heft V o S Q)
theorem hd_v_heft : ("RowBank$Ask" : String) ≠ "java/lang/invoke/MethodHandle" ∧ ("RowBank$Ask" : String) ≠ "java/lang/invoke/VarHandle" ∧ (parseMethodDescriptor "()I").map (fun d => d.parameters.length) = some 0 := by decide +kernel
section
variable {p : Program} {l : Launch} {e : Env} {R : Room} {s : State} {m : MethodId} {args : Array Value} {below : List Frame} {meth : Method} {c : Code} {H : Heap} {locs : List Loc} {cells slots : Nat} {Q : State → Prop} {cc : ByteArray} {pc : Nat} {ls : Array Slot} {rest : List Value} {D : va_G} {cy : ClassId × ClassId × ClassId × ClassId} {A : Nat → Prop} {ad : Nat → Nat} {V : Vt} {S : Me} {PL : List (Option (Int ⊕ Option Nat))}
set_option maxHeartbeats 4000000 in
set_option maxRecDepth 100000 in
theorem gv_11_362 (C : Cx p s m args meth c cc RX11 D cy A) (G : Gy D cy A s.heap ad V S H locs) (hlo : lo ad ls PL) (hml : c.maxLocals = PL.length) {r : Option Nat} {z : Nat} (hz : r = some z) (hzl : z < V.1) (hA : isA (V.2.1 z)) {Qi : Int → Me → Prop} (h : PV_heft V z S Qi) (hR : 3 ≤ R.frames ∧ 60 ≤ R.locals) (hRc : cells ≤ R.cells ∧ slots ≤ R.slots) (hW : (rest.map fun v => v.category).sum ≤ 8) (hdg : decode cc pc = .ok (.invokevirtual 362, 3)) (kk : ∀ (x : Int) (S' : Me) (H1 : Heap) (locs1 : List Loc), rng x → Qi x S' → Gy D cy A s.heap ad V S' H1 locs1 → W p l e R s m args below meth c H1 locs1 cells slots Q (F0 m (pc + 3) ls (vI x :: rest))) : W p l e R s m args below meth c H locs cells slots Q (F0 m pc ls (vR ad r :: rest)) := by
  subst hz
  have hdc : va_Decl s ⟨"RowBank$Ask", "heft", "()I"⟩ := va_Decl.of (C.2.2.2.1 _ uw_803) (C.2.2.2.1 _ uw_822)
  unfold PV_heft at h
  rcases hA with t | t | t | t | t
  · exact gx_callU (x := yX0_heft) (owner := "RowBank$Ask") C G hlo hml (c_X2_heft l D cy ad hzl t (h.1 t)) rfl hzl (by rw [t]; rfl) (by rw [t]; decide) uw_807 uw_802 uw_804 hdc uw_806 uw_805 uw_15 hd_v_heft ⟨Nat.le_trans (Nat.le_of_ble_eq_true rfl) hR.1, Nat.le_trans (Nat.le_of_ble_eq_true rfl) hR.2⟩ hRc rfl rfl hW hdg (kkI kk)
  · exact gx_callU (x := yX0_heft) (owner := "RowBank$Ask") C G hlo hml (c_X3_heft l D cy ad hzl t (h.2.1 t)) rfl hzl (by rw [t]; rfl) (by rw [t]; decide) uw_811 uw_802 uw_804 hdc uw_810 uw_809 uw_13 hd_v_heft ⟨Nat.le_trans (Nat.le_of_ble_eq_true rfl) hR.1, Nat.le_trans (Nat.le_of_ble_eq_true rfl) hR.2⟩ hRc rfl rfl hW hdg (kkI kk)
  · exact gx_callU (x := yX0_heft) (owner := "RowBank$Ask") C G hlo hml (c_X0_heft l D cy ad hzl (by omega) (h.2.2.1 t)) rfl hzl (by rw [t]; rfl) (by rw [t]; decide) uw_822 uw_802 uw_804 hdc uw_803 uw_816 uw_10 hd_v_heft ⟨Nat.le_trans (Nat.le_of_ble_eq_true rfl) hR.1, Nat.le_trans (Nat.le_of_ble_eq_true rfl) hR.2⟩ hRc rfl rfl hW hdg (kkI kk)
  · exact gx_callU (x := yX0_heft) (owner := "RowBank$Ask") C G hlo hml (c_X9_heft l D cy ad hzl t (h.2.2.2.1 t)) rfl hzl (by rw [t]; rfl) (by rw [t]; decide) uw_819 uw_802 uw_804 hdc uw_818 uw_817 uw_14 hd_v_heft ⟨Nat.le_trans (Nat.le_of_ble_eq_true rfl) hR.1, Nat.le_trans (Nat.le_of_ble_eq_true rfl) hR.2⟩ hRc rfl rfl hW hdg (kkI kk)
  · exact gx_callU (x := yX0_heft) (owner := "RowBank$Ask") C G hlo hml (c_X10_heft l D cy ad hzl (by omega) (h.2.2.2.2 t)) rfl hzl (by rw [t]; rfl) (by rw [t]; decide) uw_814 uw_802 uw_804 hdc uw_813 uw_821 uw_12 hd_v_heft ⟨Nat.le_trans (Nat.le_of_ble_eq_true rfl) hR.1, Nat.le_trans (Nat.le_of_ble_eq_true rfl) hR.2⟩ hRc rfl rfl hW hdg (kkI kk)
end
def PT_X11_weight (V : Vt) (o : Nat) (x1 : Int) (S : Me) (Q : Int → Me → Prop) : Prop := PT_X11_findShelf V o x1 S (fun t2 S1 => ((¬ t2 = none → ∃ z4 : Nat, t2 = some z4 ∧ V.2.1 z4 = 7 ∧ ((¬ (S1.2 z4 0) = none → ∃ z9 : Nat, (S1.2 z4 0) = some z9 ∧ isA (V.2.1 z9) ∧ PV_heft V z9 S1 (fun t8 S7 => Q t8 S7)) ∧ ((S1.2 z4 0) = none → PT_X8_refusalWithoutAsk V z4 S1 (fun t11 S10 => Q t11 S10)))) ∧ (t2 = none → Q (-1) S1)))
theorem hd_X11_weight : yX11_weight.cls ≠ "java/lang/invoke/MethodHandle" ∧ yX11_weight.cls ≠ "java/lang/invoke/VarHandle" ∧ (parseMethodDescriptor yX11_weight.desc).map (fun d => d.parameters.length) = some 1 := by decide +kernel
set_option maxHeartbeats 4000000 in
set_option maxRecDepth 100000 in
theorem c_X11_weight (l : Launch) (D : va_G) (cy : ClassId × ClassId × ClassId × ClassId) (ad : Nat → Nat) {V : Vt} {S : Me} {o : Nat} {x1 : Int} (hV : fX11 V o) (rx1 : rng x1) {Q : Int → Me → Prop} (h : PT_X11_weight V o x1 S Q) : KM l D cy yX11_weight cX11_weight 4 (Option.some Jvm.ClassFile.FieldType.int) 3 60 ad V S [.inr (some o), .inl x1] (qI Q) := by
  refine KM.of (by decide) rfl (Nat.le_of_ble_eq_true rfl) (own := RX11) (fun p e s m args below meth c A ls H locs eA C hret hml hmn hl G => ?_)
  have hl : lo ad ls [some (.inr (some o)), some (.inl x1), none, none] := hl
  clear eA
  unfold PT_X11_weight at h
  refine gx_aload_n C hl dX11_weight_0 rfl ?_
  refine gx_iload_n C hl dX11_weight_1 rfl ?_
  refine gx_callV C G hl hml (c_X11_findShelf l D cy ad hV rx1 h) rfl (fX11_o hV) (by rw [(fX11_c hV)]; rfl) (by rw [(fX11_c hV)]; decide) rfl uw_748 uw_745 uw_747 up_13 uw_1 hd_X11_findShelf ⟨Nat.le_of_ble_eq_true rfl, Nat.le_of_ble_eq_true rfl⟩ ⟨Nat.zero_le _, Nat.zero_le _⟩ rfl rfl (hw_le ad [] rfl (Nat.le_of_ble_eq_true rfl)) dX11_weight_2 (kkR (fun t2 S1 H locs vt2 h G => ?_))
  refine gx_astore_n C hl dX11_weight_5 (Nat.le_of_ble_eq_true rfl) (PL' := [some (.inr (some o)), some (.inl x1), some (.inr t2), none]) rfl (fun ls hl => ?_)
  refine gx_aload_n C hl dX11_weight_6 rfl ?_
  refine gx_ifnonnull (tgt := 12) C dX11_weight_7 (by decide) (fun c3 => ?_) (fun c3 => ?_)
  · have h := h.1 c3
    refine gx_aload_n C hl dX11_weight_12 rfl ?_
    obtain ⟨z4, hz4, tz4, h⟩ := h
    have lz4 := (vt2 z4 hz4)
    refine gx_getP C G hz4 lz4 (fo7_0 tz4) uw_203 (fun _ h9 => h9) dX11_weight_13 ?_
    have v5 := G.v z4 0
    refine gx_astore_n C hl dX11_weight_16 (Nat.le_of_ble_eq_true rfl) (PL' := [some (.inr (some o)), some (.inl x1), some (.inr t2), some (.inr (S1.2 z4 0))]) rfl (fun ls hl => ?_)
    refine gx_aload_n C hl dX11_weight_17 rfl ?_
    refine gx_ifnonnull (tgt := 28) C dX11_weight_18 (by decide) (fun c6 => ?_) (fun c6 => ?_)
    · have h := h.1 c6
      refine gx_aload_n C hl dX11_weight_28 rfl ?_
      obtain ⟨z9, hz9, tz9, h⟩ := h
      have lz9 := (v5 z9 hz9)
      refine gv_11_362 C G hl hml hz9 lz9 tz9 h ⟨Nat.le_of_ble_eq_true rfl, Nat.le_of_ble_eq_true rfl⟩ ⟨Nat.zero_le _, Nat.zero_le _⟩ (hw_le ad [] rfl (Nat.le_of_ble_eq_true rfl)) dX11_weight_29 (fun t8 S7 H locs rt8 h G => ?_)
      exact gx_iret C G hret rt8 h dX11_weight_32
    · have h := h.2 c6
      refine gx_aload_n C hl dX11_weight_21 rfl ?_
      refine gx_callV C G hl hml (c_X8_refusalWithoutAsk l D cy ad lz4 tz4 h) hz4 lz4 (by rw [tz4]; rfl) (by rw [tz4]; decide) rfl uw_800 uw_797 uw_798 uw_799 uw_8 hd_X8_refusalWithoutAsk ⟨Nat.le_of_ble_eq_true rfl, Nat.le_of_ble_eq_true rfl⟩ ⟨Nat.zero_le _, Nat.zero_le _⟩ rfl rfl (hw_le ad [] rfl (Nat.le_of_ble_eq_true rfl)) dX11_weight_22 (kkI (fun t11 S10 H locs rt11 h G => ?_))
      refine gx_goto (tgt := 32) C dX11_weight_25 (by decide) ?_
      exact gx_iret C G hret rt11 h dX11_weight_32
  · have h := h.2 c3
    refine gx_iconst C dX11_weight_10 ?_
    exact gx_iret C G hret (show rng (-1) by decide) h dX11_weight_11
