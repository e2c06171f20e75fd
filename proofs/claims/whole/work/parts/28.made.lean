theorem uwAO_13 : Cond.arrayOver (.object "RowBank$Ask") ∈ NW := by decide +kernel
theorem uwAO_14 : Cond.arrayOver (.object "RowBank$Shelf") ∈ NW := by decide +kernel
def PT_X5_init (V : Vt) (o : Nat) (S : Me) (Q : Vt → Me → Prop) : Prop := ∀ U1 : Vt, U1 = V → ∀ V : Vt, V = nV U1 12 (Int.toNat 4) → ∀ S2 : Me, S2 = nS U1 S → ∀ U6 : Vt, U6 = V → ∀ V : Vt, V = fV U6 o 0 U1.1 → ∀ U10 : Vt, U10 = V → ∀ V : Vt, V = nV U10 12 (Int.toNat 4) → ∀ S11 : Me, S11 = nS U10 S2 → ∀ U15 : Vt, U15 = V → ∀ V : Vt, V = fV U15 o 1 U10.1 → ∀ U19 : Vt, U19 = V → ∀ V : Vt, V = nV U19 12 (Int.toNat 4) → ∀ S20 : Me, S20 = nS U19 S11 → ∀ U24 : Vt, U24 = V → ∀ V : Vt, V = fV U24 o 2 U19.1 → ∀ U28 : Vt, U28 = V → ∀ V : Vt, V = nV U28 12 (Int.toNat 4) → ∀ S29 : Me, S29 = nS U28 S20 → ∀ U33 : Vt, U33 = V → ∀ V : Vt, V = fV U33 o 3 U28.1 → ∀ U37 : Vt, U37 = V → ∀ V : Vt, V = nV U37 12 (Int.toNat 4) → ∀ S38 : Me, S38 = nS U37 S29 → ∀ U42 : Vt, U42 = V → ∀ V : Vt, V = fV U42 o 4 U37.1 → ∀ U46 : Vt, U46 = V → ∀ V : Vt, V = nV U46 12 (Int.toNat 2) → ∀ S47 : Me, S47 = nS U46 S38 → ∀ U51 : Vt, U51 = V → ∀ V : Vt, V = fV U51 o 5 U46.1 → ∀ U55 : Vt, U55 = V → ∀ V : Vt, V = nV U55 12 (Int.toNat 4) → ∀ S56 : Me, S56 = nS U55 S47 → ∀ U60 : Vt, U60 = V → ∀ V : Vt, V = fV U60 o 6 U55.1 → (fX5 V o) ∧ PT_X5_forget V o S56 (fun S64 => Q V S64)
theorem hd_X5_init : yX5_init.cls ≠ "java/lang/invoke/MethodHandle" ∧ yX5_init.cls ≠ "java/lang/invoke/VarHandle" ∧ (parseMethodDescriptor yX5_init.desc).map (fun d => d.parameters.length) = some 0 := by decide +kernel
set_option maxHeartbeats 4000000 in
set_option maxRecDepth 100000 in
theorem c_X5_init (l : Launch) (D : va_G) (cy : ClassId × ClassId × ClassId × ClassId) (ad : Nat → Nat) {V : Vt} {S : Me} {o : Nat} (ho : o < V.1) (ht : V.2.1 o = 4) {Q : Vt → Me → Prop} (h : PT_X5_init V o S Q) : KC l D cy yX5_init cX5_init 1 2 43 7 26 ad V S [.inr (some o)] Q := by
  refine KC.of (by decide) rfl (Nat.le_of_ble_eq_true rfl) (own := RX5) (fun p e s m args below meth c A ls H locs eA C hret hml hmn hl G => ?_)
  have hl : lo ad ls [some (.inr (some o))] := hl
  obtain ⟨ad0, ead0⟩ : ∃ q : Nat → Nat, q = ad := ⟨_, rfl⟩
  obtain ⟨V0, eV0⟩ : ∃ q : Vt, q = V := ⟨_, rfl⟩
  have hag : ∀ k, k < V0.1 → ad k = ad0 k := fun k _ => by rw [ead0]
  have hex : exT V0 V := by rw [eV0]; exact exT.rf V
  rw [← ead0, ← eV0]
  clear eV0 ead0
  clear eA
  unfold PT_X5_init at h
  refine gx_aload_n C hl dX5_init_0 rfl ?_
  refine gx_objInit C hl hml rfl uw_36 ⟨Nat.le_of_ble_eq_true rfl, Nat.le_of_ble_eq_true rfl⟩ (hw_le ad [] rfl (Nat.le_of_ble_eq_true rfl)) dX5_init_1 ?_
  refine gx_aload_n C hl dX5_init_4 rfl ?_
  refine gx_iconst C dX5_init_5 ?_
  obtain ⟨U1, rfl⟩ : ∃ q : Vt, q = V := ⟨_, rfl⟩
  have h := h U1 rfl
  refine gx_newa C G hl (okP_S (okv_R (vsome ho)) okP_0) (show rng 4 by decide) 4 (by decide) (by decide) (Nat.le_of_ble_eq_true rfl) (Nat.le_of_ble_eq_true rfl) (Nat.le_of_ble_eq_true rfl) [.inr (some o)] rfl (okS_S (okv_R (vsome ho)) okS_0) dX5_init_6 (fun ad V S2 H eV eS hag1 hex1 hl G => ?_)
  have h := h V eV S2 eS
  have hex1 := exT.of hex1
  have nlU1 : U1.1 < V.1 := by rw [eV]; exact Nat.lt_succ_self _
  have ntU1 : V.2.1 U1.1 = 12 := by rw [eV]; simp [nV]
  have v3 := hex1.vl (vsome ho)
  have l4 := hex1.lt ho
  have t5 := hex1.ty ho ht
  have hag := fun k hk => (hag1 k (hex.lt hk)).trans (hag k hk)
  have hex := hex.tr hex1
  have ngU1 : V.2.2.1 U1.1 = 4 := by rw [eV]; simp [nV]
  obtain ⟨U6, rfl⟩ : ∃ q : Vt, q = V := ⟨_, rfl⟩
  have h := h U6 rfl
  refine gx_putF C hmn G rfl l4 (fo4_0 t5) (Or.inr ⟨_, rfl⟩) rfl nlU1 uw_44 dX5_init_8 (fun V H locs eV hex1 G => ?_)
  have h := h V eV
  have v7 := hex1.vl v3
  have l8 := hex1.lt l4
  have t9 := hex1.ty l4 t5
  have hag := hag
  have hex := hex.tr hex1
  refine gx_aload_n C hl dX5_init_11 rfl ?_
  refine gx_iconst C dX5_init_12 ?_
  obtain ⟨U10, rfl⟩ : ∃ q : Vt, q = V := ⟨_, rfl⟩
  have h := h U10 rfl
  refine gx_newa C G hl (okP_S (okv_R v7) okP_0) (show rng 4 by decide) 4 (by decide) (by decide) (Nat.le_of_ble_eq_true rfl) (Nat.le_of_ble_eq_true rfl) (Nat.le_of_ble_eq_true rfl) [.inr (some o)] rfl (okS_S (okv_R v7) okS_0) dX5_init_13 (fun ad V S11 H eV eS hag1 hex1 hl G => ?_)
  have h := h V eV S11 eS
  have hex1 := exT.of hex1
  have nlU10 : U10.1 < V.1 := by rw [eV]; exact Nat.lt_succ_self _
  have ntU10 : V.2.1 U10.1 = 12 := by rw [eV]; simp [nV]
  have v12 := hex1.vl v7
  have l13 := hex1.lt l8
  have t14 := hex1.ty l8 t9
  have hag := fun k hk => (hag1 k (hex.lt hk)).trans (hag k hk)
  have hex := hex.tr hex1
  have ngU10 : V.2.2.1 U10.1 = 4 := by rw [eV]; simp [nV]
  obtain ⟨U15, rfl⟩ : ∃ q : Vt, q = V := ⟨_, rfl⟩
  have h := h U15 rfl
  refine gx_putF C hmn G rfl l13 (fo4_1 t14) (Or.inr ⟨_, rfl⟩) rfl nlU10 uw_45 dX5_init_15 (fun V H locs eV hex1 G => ?_)
  have h := h V eV
  have v16 := hex1.vl v12
  have l17 := hex1.lt l13
  have t18 := hex1.ty l13 t14
  have hag := hag
  have hex := hex.tr hex1
  refine gx_aload_n C hl dX5_init_18 rfl ?_
  refine gx_iconst C dX5_init_19 ?_
  obtain ⟨U19, rfl⟩ : ∃ q : Vt, q = V := ⟨_, rfl⟩
  have h := h U19 rfl
  refine gx_newa C G hl (okP_S (okv_R v16) okP_0) (show rng 4 by decide) 4 (by decide) (by decide) (Nat.le_of_ble_eq_true rfl) (Nat.le_of_ble_eq_true rfl) (Nat.le_of_ble_eq_true rfl) [.inr (some o)] rfl (okS_S (okv_R v16) okS_0) dX5_init_20 (fun ad V S20 H eV eS hag1 hex1 hl G => ?_)
  have h := h V eV S20 eS
  have hex1 := exT.of hex1
  have nlU19 : U19.1 < V.1 := by rw [eV]; exact Nat.lt_succ_self _
  have ntU19 : V.2.1 U19.1 = 12 := by rw [eV]; simp [nV]
  have v21 := hex1.vl v16
  have l22 := hex1.lt l17
  have t23 := hex1.ty l17 t18
  have hag := fun k hk => (hag1 k (hex.lt hk)).trans (hag k hk)
  have hex := hex.tr hex1
  have ngU19 : V.2.2.1 U19.1 = 4 := by rw [eV]; simp [nV]
  obtain ⟨U24, rfl⟩ : ∃ q : Vt, q = V := ⟨_, rfl⟩
  have h := h U24 rfl
  refine gx_putF C hmn G rfl l22 (fo4_2 t23) (Or.inr ⟨_, rfl⟩) rfl nlU19 uw_46 dX5_init_22 (fun V H locs eV hex1 G => ?_)
  have h := h V eV
  have v25 := hex1.vl v21
  have l26 := hex1.lt l22
  have t27 := hex1.ty l22 t23
  have hag := hag
  have hex := hex.tr hex1
  refine gx_aload_n C hl dX5_init_25 rfl ?_
  refine gx_iconst C dX5_init_26 ?_
  obtain ⟨U28, rfl⟩ : ∃ q : Vt, q = V := ⟨_, rfl⟩
  have h := h U28 rfl
  refine gx_newa C G hl (okP_S (okv_R v25) okP_0) (show rng 4 by decide) 4 (by decide) (by decide) (Nat.le_of_ble_eq_true rfl) (Nat.le_of_ble_eq_true rfl) (Nat.le_of_ble_eq_true rfl) [.inr (some o)] rfl (okS_S (okv_R v25) okS_0) dX5_init_27 (fun ad V S29 H eV eS hag1 hex1 hl G => ?_)
  have h := h V eV S29 eS
  have hex1 := exT.of hex1
  have nlU28 : U28.1 < V.1 := by rw [eV]; exact Nat.lt_succ_self _
  have ntU28 : V.2.1 U28.1 = 12 := by rw [eV]; simp [nV]
  have v30 := hex1.vl v25
  have l31 := hex1.lt l26
  have t32 := hex1.ty l26 t27
  have hag := fun k hk => (hag1 k (hex.lt hk)).trans (hag k hk)
  have hex := hex.tr hex1
  have ngU28 : V.2.2.1 U28.1 = 4 := by rw [eV]; simp [nV]
  obtain ⟨U33, rfl⟩ : ∃ q : Vt, q = V := ⟨_, rfl⟩
  have h := h U33 rfl
  refine gx_putF C hmn G rfl l31 (fo4_3 t32) (Or.inr ⟨_, rfl⟩) rfl nlU28 uw_47 dX5_init_29 (fun V H locs eV hex1 G => ?_)
  have h := h V eV
  have v34 := hex1.vl v30
  have l35 := hex1.lt l31
  have t36 := hex1.ty l31 t32
  have hag := hag
  have hex := hex.tr hex1
  refine gx_aload_n C hl dX5_init_32 rfl ?_
  refine gx_iconst C dX5_init_33 ?_
  obtain ⟨U37, rfl⟩ : ∃ q : Vt, q = V := ⟨_, rfl⟩
  have h := h U37 rfl
  refine gx_newa C G hl (okP_S (okv_R v34) okP_0) (show rng 4 by decide) 4 (by decide) (by decide) (Nat.le_of_ble_eq_true rfl) (Nat.le_of_ble_eq_true rfl) (Nat.le_of_ble_eq_true rfl) [.inr (some o)] rfl (okS_S (okv_R v34) okS_0) dX5_init_34 (fun ad V S38 H eV eS hag1 hex1 hl G => ?_)
  have h := h V eV S38 eS
  have hex1 := exT.of hex1
  have nlU37 : U37.1 < V.1 := by rw [eV]; exact Nat.lt_succ_self _
  have ntU37 : V.2.1 U37.1 = 12 := by rw [eV]; simp [nV]
  have v39 := hex1.vl v34
  have l40 := hex1.lt l35
  have t41 := hex1.ty l35 t36
  have hag := fun k hk => (hag1 k (hex.lt hk)).trans (hag k hk)
  have hex := hex.tr hex1
  have ngU37 : V.2.2.1 U37.1 = 4 := by rw [eV]; simp [nV]
  obtain ⟨U42, rfl⟩ : ∃ q : Vt, q = V := ⟨_, rfl⟩
  have h := h U42 rfl
  refine gx_putF C hmn G rfl l40 (fo4_4 t41) (Or.inr ⟨_, rfl⟩) rfl nlU37 uw_48 dX5_init_36 (fun V H locs eV hex1 G => ?_)
  have h := h V eV
  have v43 := hex1.vl v39
  have l44 := hex1.lt l40
  have t45 := hex1.ty l40 t41
  have hag := hag
  have hex := hex.tr hex1
  refine gx_aload_n C hl dX5_init_39 rfl ?_
  refine gx_iconst C dX5_init_40 ?_
  obtain ⟨U46, rfl⟩ : ∃ q : Vt, q = V := ⟨_, rfl⟩
  have h := h U46 rfl
  refine gx_newa C G hl (okP_S (okv_R v43) okP_0) (show rng 2 by decide) 2 (by decide) (by decide) (Nat.le_of_ble_eq_true rfl) (Nat.le_of_ble_eq_true rfl) (Nat.le_of_ble_eq_true rfl) [.inr (some o)] rfl (okS_S (okv_R v43) okS_0) dX5_init_41 (fun ad V S47 H eV eS hag1 hex1 hl G => ?_)
  have h := h V eV S47 eS
  have hex1 := exT.of hex1
  have nlU46 : U46.1 < V.1 := by rw [eV]; exact Nat.lt_succ_self _
  have ntU46 : V.2.1 U46.1 = 12 := by rw [eV]; simp [nV]
  have v48 := hex1.vl v43
  have l49 := hex1.lt l44
  have t50 := hex1.ty l44 t45
  have hag := fun k hk => (hag1 k (hex.lt hk)).trans (hag k hk)
  have hex := hex.tr hex1
  have ngU46 : V.2.2.1 U46.1 = 2 := by rw [eV]; simp [nV]
  obtain ⟨U51, rfl⟩ : ∃ q : Vt, q = V := ⟨_, rfl⟩
  have h := h U51 rfl
  refine gx_putF C hmn G rfl l49 (fo4_5 t50) (Or.inr ⟨_, rfl⟩) rfl nlU46 uw_49 dX5_init_43 (fun V H locs eV hex1 G => ?_)
  have h := h V eV
  have v52 := hex1.vl v48
  have l53 := hex1.lt l49
  have t54 := hex1.ty l49 t50
  have hag := hag
  have hex := hex.tr hex1
  refine gx_aload_n C hl dX5_init_46 rfl ?_
  refine gx_iconst C dX5_init_47 ?_
  obtain ⟨U55, rfl⟩ : ∃ q : Vt, q = V := ⟨_, rfl⟩
  have h := h U55 rfl
  refine gx_newa C G hl (okP_S (okv_R v52) okP_0) (show rng 4 by decide) 4 (by decide) (by decide) (Nat.le_of_ble_eq_true rfl) (Nat.le_of_ble_eq_true rfl) (Nat.le_of_ble_eq_true rfl) [.inr (some o)] rfl (okS_S (okv_R v52) okS_0) dX5_init_48 (fun ad V S56 H eV eS hag1 hex1 hl G => ?_)
  have h := h V eV S56 eS
  have hex1 := exT.of hex1
  have nlU55 : U55.1 < V.1 := by rw [eV]; exact Nat.lt_succ_self _
  have ntU55 : V.2.1 U55.1 = 12 := by rw [eV]; simp [nV]
  have v57 := hex1.vl v52
  have l58 := hex1.lt l53
  have t59 := hex1.ty l53 t54
  have hag := fun k hk => (hag1 k (hex.lt hk)).trans (hag k hk)
  have hex := hex.tr hex1
  have ngU55 : V.2.2.1 U55.1 = 4 := by rw [eV]; simp [nV]
  obtain ⟨U60, rfl⟩ : ∃ q : Vt, q = V := ⟨_, rfl⟩
  have h := h U60 rfl
  refine gx_putF C hmn G rfl l58 (fo4_6 t59) (Or.inr ⟨_, rfl⟩) rfl nlU55 uw_50 dX5_init_50 (fun V H locs eV hex1 G => ?_)
  have h := h V eV
  have v61 := hex1.vl v57
  have l62 := hex1.lt l58
  have t63 := hex1.ty l58 t59
  have hag := hag
  have hex := hex.tr hex1
  refine gx_aload_n C hl dX5_init_53 rfl ?_
  obtain ⟨h65, h⟩ := h
  refine gx_callV C G hl hml (c_X5_forget l D cy ad h65 h) rfl l62 (by rw [t63]; rfl) (by rw [t63]; decide) rfl uw_40 uw_37 uw_39 up_0 uw_2 hd_X5_forget ⟨Nat.le_of_ble_eq_true rfl, Nat.le_of_ble_eq_true rfl⟩ ⟨Nat.le_of_ble_eq_true rfl, Nat.le_of_ble_eq_true rfl⟩ rfl rfl (hw_le ad [] rfl (Nat.le_of_ble_eq_true rfl)) dX5_init_54 (kkV (fun S64 H locs h G => ?_))
  exact gx_vretC C G hag hex hret h dX5_init_57 ⟨Nat.le_of_ble_eq_true rfl, Nat.le_of_ble_eq_true rfl⟩
def PT_X4_init (V : Vt) (o : Nat) (S : Me) (Q : Vt → Me → Prop) : Prop := ∀ U1 : Vt, U1 = V → ∀ V : Vt, V = nV U1 12 (Int.toNat 1024) → ∀ S2 : Me, S2 = nS U1 S → ∀ U6 : Vt, U6 = V → ∀ V : Vt, V = fV U6 o 0 U1.1 → ∀ U10 : Vt, U10 = V → ∀ V : Vt, V = nV U10 12 (Int.toNat 4) → ∀ S11 : Me, S11 = nS U10 S2 → ∀ S15 : Me, S15 = sI S11 U10.1 (Int.toNat 0) (-2) → ∀ S16 : Me, S16 = sI S15 U10.1 (Int.toNat 1) (-2) → ∀ S17 : Me, S17 = sI S16 U10.1 (Int.toNat 2) (-2) → ∀ S18 : Me, S18 = sI S17 U10.1 (Int.toNat 3) (-2) → ∀ U19 : Vt, U19 = V → ∀ V : Vt, V = fV U19 o 1 U10.1 → Q V S18
theorem hd_X4_init : yX4_init.cls ≠ "java/lang/invoke/MethodHandle" ∧ yX4_init.cls ≠ "java/lang/invoke/VarHandle" ∧ (parseMethodDescriptor yX4_init.desc).map (fun d => d.parameters.length) = some 0 := by decide +kernel
set_option maxHeartbeats 4000000 in
set_option maxRecDepth 100000 in
theorem c_X4_init (l : Launch) (D : va_G) (cy : ClassId × ClassId × ClassId × ClassId) (ad : Nat → Nat) {V : Vt} {S : Me} {o : Nat} (ho : o < V.1) (ht : V.2.1 o = 3) {Q : Vt → Me → Prop} (h : PT_X4_init V o S Q) : KC l D cy yX4_init cX4_init 1 1 20 2 1028 ad V S [.inr (some o)] Q := by
  refine KC.of (by decide) rfl (Nat.le_of_ble_eq_true rfl) (own := RX4) (fun p e s m args below meth c A ls H locs eA C hret hml hmn hl G => ?_)
  have hl : lo ad ls [some (.inr (some o))] := hl
  obtain ⟨ad0, ead0⟩ : ∃ q : Nat → Nat, q = ad := ⟨_, rfl⟩
  obtain ⟨V0, eV0⟩ : ∃ q : Vt, q = V := ⟨_, rfl⟩
  have hag : ∀ k, k < V0.1 → ad k = ad0 k := fun k _ => by rw [ead0]
  have hex : exT V0 V := by rw [eV0]; exact exT.rf V
  rw [← ead0, ← eV0]
  clear eV0 ead0
  clear eA
  unfold PT_X4_init at h
  refine gx_aload_n C hl dX4_init_0 rfl ?_
  refine gx_objInit C hl hml rfl uw_132 ⟨Nat.le_of_ble_eq_true rfl, Nat.le_of_ble_eq_true rfl⟩ (hw_le ad [] rfl (Nat.le_of_ble_eq_true rfl)) dX4_init_1 ?_
  refine gx_aload_n C hl dX4_init_4 rfl ?_
  refine gx_sipush C dX4_init_5 (by decide) ?_
  obtain ⟨U1, rfl⟩ : ∃ q : Vt, q = V := ⟨_, rfl⟩
  have h := h U1 rfl
  refine gx_newa C G hl (okP_S (okv_R (vsome ho)) okP_0) (show rng 1024 by decide) 1024 (by decide) (by decide) (Nat.le_of_ble_eq_true rfl) (Nat.le_of_ble_eq_true rfl) (Nat.le_of_ble_eq_true rfl) [.inr (some o)] rfl (okS_S (okv_R (vsome ho)) okS_0) dX4_init_8 (fun ad V S2 H eV eS hag1 hex1 hl G => ?_)
  have h := h V eV S2 eS
  have hex1 := exT.of hex1
  have nlU1 : U1.1 < V.1 := by rw [eV]; exact Nat.lt_succ_self _
  have ntU1 : V.2.1 U1.1 = 12 := by rw [eV]; simp [nV]
  have v3 := hex1.vl (vsome ho)
  have l4 := hex1.lt ho
  have t5 := hex1.ty ho ht
  have hag := fun k hk => (hag1 k (hex.lt hk)).trans (hag k hk)
  have hex := hex.tr hex1
  have ngU1 : V.2.2.1 U1.1 = 1024 := by rw [eV]; simp [nV]
  obtain ⟨U6, rfl⟩ : ∃ q : Vt, q = V := ⟨_, rfl⟩
  have h := h U6 rfl
  refine gx_putF C hmn G rfl l4 (fo3_0 t5) (Or.inr ⟨_, rfl⟩) rfl nlU1 uw_133 dX4_init_10 (fun V H locs eV hex1 G => ?_)
  have h := h V eV
  have v7 := hex1.vl v3
  have l8 := hex1.lt l4
  have t9 := hex1.ty l4 t5
  have hag := hag
  have hex := hex.tr hex1
  refine gx_aload_n C hl dX4_init_13 rfl ?_
  refine gx_iconst C dX4_init_14 ?_
  obtain ⟨U10, rfl⟩ : ∃ q : Vt, q = V := ⟨_, rfl⟩
  have h := h U10 rfl
  refine gx_newa C G hl (okP_S (okv_R v7) okP_0) (show rng 4 by decide) 4 (by decide) (by decide) (Nat.le_of_ble_eq_true rfl) (Nat.le_of_ble_eq_true rfl) (Nat.le_of_ble_eq_true rfl) [.inr (some o)] rfl (okS_S (okv_R v7) okS_0) dX4_init_15 (fun ad V S11 H eV eS hag1 hex1 hl G => ?_)
  have h := h V eV S11 eS
  have hex1 := exT.of hex1
  have nlU10 : U10.1 < V.1 := by rw [eV]; exact Nat.lt_succ_self _
  have ntU10 : V.2.1 U10.1 = 12 := by rw [eV]; simp [nV]
  have v12 := hex1.vl v7
  have l13 := hex1.lt l8
  have t14 := hex1.ty l8 t9
  have hag := fun k hk => (hag1 k (hex.lt hk)).trans (hag k hk)
  have hex := hex.tr hex1
  have ngU10 : V.2.2.1 U10.1 = 4 := by rw [eV]; simp [nV]
  refine gx_dupR C dX4_init_17 ?_
  refine gx_iconst C dX4_init_18 ?_
  refine gx_bipush C dX4_init_19 (by decide) ?_
  refine gx_iast C G rfl nlU10 ntU10 (show rng 0 by decide) (show rng (-2) by decide) (by decide) (ixl ngU10 (by decide)) dX4_init_21 (fun H locs G => ?_)
  obtain ⟨S15, eS15⟩ : ∃ q9 : Me, q9 = sI S11 U10.1 (Int.toNat 0) (-2) := ⟨_, rfl⟩
  have h := h S15 eS15
  rw [← eS15] at G
  refine gx_dupR C dX4_init_22 ?_
  refine gx_iconst C dX4_init_23 ?_
  refine gx_bipush C dX4_init_24 (by decide) ?_
  refine gx_iast C G rfl nlU10 ntU10 (show rng 1 by decide) (show rng (-2) by decide) (by decide) (ixl ngU10 (by decide)) dX4_init_26 (fun H locs G => ?_)
  obtain ⟨S16, eS16⟩ : ∃ q9 : Me, q9 = sI S15 U10.1 (Int.toNat 1) (-2) := ⟨_, rfl⟩
  have h := h S16 eS16
  rw [← eS16] at G
  refine gx_dupR C dX4_init_27 ?_
  refine gx_iconst C dX4_init_28 ?_
  refine gx_bipush C dX4_init_29 (by decide) ?_
  refine gx_iast C G rfl nlU10 ntU10 (show rng 2 by decide) (show rng (-2) by decide) (by decide) (ixl ngU10 (by decide)) dX4_init_31 (fun H locs G => ?_)
  obtain ⟨S17, eS17⟩ : ∃ q9 : Me, q9 = sI S16 U10.1 (Int.toNat 2) (-2) := ⟨_, rfl⟩
  have h := h S17 eS17
  rw [← eS17] at G
  refine gx_dupR C dX4_init_32 ?_
  refine gx_iconst C dX4_init_33 ?_
  refine gx_bipush C dX4_init_34 (by decide) ?_
  refine gx_iast C G rfl nlU10 ntU10 (show rng 3 by decide) (show rng (-2) by decide) (by decide) (ixl ngU10 (by decide)) dX4_init_36 (fun H locs G => ?_)
  obtain ⟨S18, eS18⟩ : ∃ q9 : Me, q9 = sI S17 U10.1 (Int.toNat 3) (-2) := ⟨_, rfl⟩
  have h := h S18 eS18
  rw [← eS18] at G
  obtain ⟨U19, rfl⟩ : ∃ q : Vt, q = V := ⟨_, rfl⟩
  have h := h U19 rfl
  refine gx_putF C hmn G rfl l13 (fo3_1 t14) (Or.inr ⟨_, rfl⟩) rfl nlU10 uw_135 dX4_init_37 (fun V H locs eV hex1 G => ?_)
  have h := h V eV
  have v20 := hex1.vl v12
  have l21 := hex1.lt l13
  have t22 := hex1.ty l13 t14
  have hag := hag
  have hex := hex.tr hex1
  exact gx_vretC C G hag hex hret h dX4_init_40 ⟨Nat.le_of_ble_eq_true rfl, Nat.le_of_ble_eq_true rfl⟩
def PT_X7_init (V : Vt) (o : Nat) (S : Me) (Q : Vt → Me → Prop) : Prop := ∀ U1 : Vt, U1 = V → ∀ V : Vt, V = nV U1 13 400 → ∀ S2 : Me, S2 = nS U1 S → ∀ U6 : Vt, U6 = V → ∀ V : Vt, V = fV U6 o 0 U1.1 → ∀ U10 : Vt, U10 = V → ∀ V : Vt, V = nV U10 12 (Int.toNat 1024) → ∀ S11 : Me, S11 = nS U10 S2 → ∀ U15 : Vt, U15 = V → ∀ V : Vt, V = fV U15 o 1 U10.1 → ∀ U19 : Vt, U19 = V → ∀ V : Vt, V = nV U19 12 (Int.toNat 4) → ∀ S20 : Me, S20 = nS U19 S11 → ∀ U24 : Vt, U24 = V → ∀ V : Vt, V = fV U24 o 2 U19.1 → ∀ U28 : Vt, U28 = V → ∀ V : Vt, V = nV U28 12 (Int.toNat 4) → ∀ S29 : Me, S29 = nS U28 S20 → ∀ S33 : Me, S33 = sI S29 U28.1 (Int.toNat 0) (-2) → ∀ S34 : Me, S34 = sI S33 U28.1 (Int.toNat 1) (-2) → ∀ S35 : Me, S35 = sI S34 U28.1 (Int.toNat 2) (-2) → ∀ S36 : Me, S36 = sI S35 U28.1 (Int.toNat 3) (-2) → ∀ U37 : Vt, U37 = V → ∀ V : Vt, V = fV U37 o 3 U28.1 → ∀ S41 : Me, S41 = sP S36 o 4 none → ∀ S42 : Me, S42 = sP S41 o 5 none → ∀ S43 : Me, S43 = sI S42 o 6 0 → ∀ S44 : Me, S44 = sI S43 o 7 0 → ∀ S45 : Me, S45 = sI S44 o 8 0 → ∀ S46 : Me, S46 = sI S45 o 9 0 → ∀ S47 : Me, S47 = sI S46 o 10 0 → Q V S47
theorem hd_X7_init : yX7_init.cls ≠ "java/lang/invoke/MethodHandle" ∧ yX7_init.cls ≠ "java/lang/invoke/VarHandle" ∧ (parseMethodDescriptor yX7_init.desc).map (fun d => d.parameters.length) = some 0 := by decide +kernel
set_option maxHeartbeats 4000000 in
set_option maxRecDepth 100000 in
theorem c_X7_init (l : Launch) (D : va_G) (cy : ClassId × ClassId × ClassId × ClassId) (ad : Nat → Nat) {V : Vt} {S : Me} {o : Nat} (ho : o < V.1) (ht : V.2.1 o = 6) {Q : Vt → Me → Prop} (h : PT_X7_init V o S Q) : KC l D cy yX7_init cX7_init 1 1 20 4 1432 ad V S [.inr (some o)] Q := by
  refine KC.of (by decide) rfl (Nat.le_of_ble_eq_true rfl) (own := RX7) (fun p e s m args below meth c A ls H locs eA C hret hml hmn hl G => ?_)
  have hl : lo ad ls [some (.inr (some o))] := hl
  obtain ⟨ad0, ead0⟩ : ∃ q : Nat → Nat, q = ad := ⟨_, rfl⟩
  obtain ⟨V0, eV0⟩ : ∃ q : Vt, q = V := ⟨_, rfl⟩
  have hag : ∀ k, k < V0.1 → ad k = ad0 k := fun k _ => by rw [ead0]
  have hex : exT V0 V := by rw [eV0]; exact exT.rf V
  rw [← ead0, ← eV0]
  clear eV0 ead0
  clear eA
  unfold PT_X7_init at h
  refine gx_aload_n C hl dX7_init_0 rfl ?_
  refine gx_objInit C hl hml rfl uw_148 ⟨Nat.le_of_ble_eq_true rfl, Nat.le_of_ble_eq_true rfl⟩ (hw_le ad [] rfl (Nat.le_of_ble_eq_true rfl)) dX7_init_1 ?_
  refine gx_aload_n C hl dX7_init_4 rfl ?_
  refine gx_sipush C dX7_init_5 (by decide) ?_
  obtain ⟨U1, rfl⟩ : ∃ q : Vt, q = V := ⟨_, rfl⟩
  have h := h U1 rfl
  refine gx_anew C G hl (okP_S (okv_R (vsome ho)) okP_0) (show rng 400 by decide) 400 (by decide) rfl (Nat.le_of_ble_eq_true rfl) (Or.inl ⟨rfl, rfl⟩) uw_149 uwAO_13 (Nat.le_of_ble_eq_true rfl) (Nat.le_of_ble_eq_true rfl) [.inr (some o)] rfl (okS_S (okv_R (vsome ho)) okS_0) dX7_init_8 (fun ad V S2 H eV eS hag1 hex1 hl G => ?_)
  have h := h V eV S2 eS
  have hex1 := exT.of hex1
  have nlU1 : U1.1 < V.1 := by rw [eV]; exact Nat.lt_succ_self _
  have ntU1 : V.2.1 U1.1 = 13 := by rw [eV]; simp [nV]
  have v3 := hex1.vl (vsome ho)
  have l4 := hex1.lt ho
  have t5 := hex1.ty ho ht
  have hag := fun k hk => (hag1 k (hex.lt hk)).trans (hag k hk)
  have hex := hex.tr hex1
  have ngU1 : V.2.2.1 U1.1 = 400 := by rw [eV]; simp [nV]
  obtain ⟨U6, rfl⟩ : ∃ q : Vt, q = V := ⟨_, rfl⟩
  have h := h U6 rfl
  refine gx_putF C hmn G rfl l4 (fo6_0 t5) (Or.inr ⟨_, rfl⟩) rfl nlU1 uw_151 dX7_init_11 (fun V H locs eV hex1 G => ?_)
  have h := h V eV
  have v7 := hex1.vl v3
  have l8 := hex1.lt l4
  have t9 := hex1.ty l4 t5
  have hag := hag
  have hex := hex.tr hex1
  refine gx_aload_n C hl dX7_init_14 rfl ?_
  refine gx_sipush C dX7_init_15 (by decide) ?_
  obtain ⟨U10, rfl⟩ : ∃ q : Vt, q = V := ⟨_, rfl⟩
  have h := h U10 rfl
  refine gx_newa C G hl (okP_S (okv_R v7) okP_0) (show rng 1024 by decide) 1024 (by decide) (by decide) (Nat.le_of_ble_eq_true rfl) (Nat.le_of_ble_eq_true rfl) (Nat.le_of_ble_eq_true rfl) [.inr (some o)] rfl (okS_S (okv_R v7) okS_0) dX7_init_18 (fun ad V S11 H eV eS hag1 hex1 hl G => ?_)
  have h := h V eV S11 eS
  have hex1 := exT.of hex1
  have nlU10 : U10.1 < V.1 := by rw [eV]; exact Nat.lt_succ_self _
  have ntU10 : V.2.1 U10.1 = 12 := by rw [eV]; simp [nV]
  have v12 := hex1.vl v7
  have l13 := hex1.lt l8
  have t14 := hex1.ty l8 t9
  have hag := fun k hk => (hag1 k (hex.lt hk)).trans (hag k hk)
  have hex := hex.tr hex1
  have ngU10 : V.2.2.1 U10.1 = 1024 := by rw [eV]; simp [nV]
  obtain ⟨U15, rfl⟩ : ∃ q : Vt, q = V := ⟨_, rfl⟩
  have h := h U15 rfl
  refine gx_putF C hmn G rfl l13 (fo6_1 t14) (Or.inr ⟨_, rfl⟩) rfl nlU10 uw_152 dX7_init_20 (fun V H locs eV hex1 G => ?_)
  have h := h V eV
  have v16 := hex1.vl v12
  have l17 := hex1.lt l13
  have t18 := hex1.ty l13 t14
  have hag := hag
  have hex := hex.tr hex1
  refine gx_aload_n C hl dX7_init_23 rfl ?_
  refine gx_iconst C dX7_init_24 ?_
  obtain ⟨U19, rfl⟩ : ∃ q : Vt, q = V := ⟨_, rfl⟩
  have h := h U19 rfl
  refine gx_newa C G hl (okP_S (okv_R v16) okP_0) (show rng 4 by decide) 4 (by decide) (by decide) (Nat.le_of_ble_eq_true rfl) (Nat.le_of_ble_eq_true rfl) (Nat.le_of_ble_eq_true rfl) [.inr (some o)] rfl (okS_S (okv_R v16) okS_0) dX7_init_25 (fun ad V S20 H eV eS hag1 hex1 hl G => ?_)
  have h := h V eV S20 eS
  have hex1 := exT.of hex1
  have nlU19 : U19.1 < V.1 := by rw [eV]; exact Nat.lt_succ_self _
  have ntU19 : V.2.1 U19.1 = 12 := by rw [eV]; simp [nV]
  have v21 := hex1.vl v16
  have l22 := hex1.lt l17
  have t23 := hex1.ty l17 t18
  have hag := fun k hk => (hag1 k (hex.lt hk)).trans (hag k hk)
  have hex := hex.tr hex1
  have ngU19 : V.2.2.1 U19.1 = 4 := by rw [eV]; simp [nV]
  obtain ⟨U24, rfl⟩ : ∃ q : Vt, q = V := ⟨_, rfl⟩
  have h := h U24 rfl
  refine gx_putF C hmn G rfl l22 (fo6_2 t23) (Or.inr ⟨_, rfl⟩) rfl nlU19 uw_153 dX7_init_27 (fun V H locs eV hex1 G => ?_)
  have h := h V eV
  have v25 := hex1.vl v21
  have l26 := hex1.lt l22
  have t27 := hex1.ty l22 t23
  have hag := hag
  have hex := hex.tr hex1
  refine gx_aload_n C hl dX7_init_30 rfl ?_
  refine gx_iconst C dX7_init_31 ?_
  obtain ⟨U28, rfl⟩ : ∃ q : Vt, q = V := ⟨_, rfl⟩
  have h := h U28 rfl
  refine gx_newa C G hl (okP_S (okv_R v25) okP_0) (show rng 4 by decide) 4 (by decide) (by decide) (Nat.le_of_ble_eq_true rfl) (Nat.le_of_ble_eq_true rfl) (Nat.le_of_ble_eq_true rfl) [.inr (some o)] rfl (okS_S (okv_R v25) okS_0) dX7_init_32 (fun ad V S29 H eV eS hag1 hex1 hl G => ?_)
  have h := h V eV S29 eS
  have hex1 := exT.of hex1
  have nlU28 : U28.1 < V.1 := by rw [eV]; exact Nat.lt_succ_self _
  have ntU28 : V.2.1 U28.1 = 12 := by rw [eV]; simp [nV]
  have v30 := hex1.vl v25
  have l31 := hex1.lt l26
  have t32 := hex1.ty l26 t27
  have hag := fun k hk => (hag1 k (hex.lt hk)).trans (hag k hk)
  have hex := hex.tr hex1
  have ngU28 : V.2.2.1 U28.1 = 4 := by rw [eV]; simp [nV]
  refine gx_dupR C dX7_init_34 ?_
  refine gx_iconst C dX7_init_35 ?_
  refine gx_bipush C dX7_init_36 (by decide) ?_
  refine gx_iast C G rfl nlU28 ntU28 (show rng 0 by decide) (show rng (-2) by decide) (by decide) (ixl ngU28 (by decide)) dX7_init_38 (fun H locs G => ?_)
  obtain ⟨S33, eS33⟩ : ∃ q9 : Me, q9 = sI S29 U28.1 (Int.toNat 0) (-2) := ⟨_, rfl⟩
  have h := h S33 eS33
  rw [← eS33] at G
  refine gx_dupR C dX7_init_39 ?_
  refine gx_iconst C dX7_init_40 ?_
  refine gx_bipush C dX7_init_41 (by decide) ?_
  refine gx_iast C G rfl nlU28 ntU28 (show rng 1 by decide) (show rng (-2) by decide) (by decide) (ixl ngU28 (by decide)) dX7_init_43 (fun H locs G => ?_)
  obtain ⟨S34, eS34⟩ : ∃ q9 : Me, q9 = sI S33 U28.1 (Int.toNat 1) (-2) := ⟨_, rfl⟩
  have h := h S34 eS34
  rw [← eS34] at G
  refine gx_dupR C dX7_init_44 ?_
  refine gx_iconst C dX7_init_45 ?_
  refine gx_bipush C dX7_init_46 (by decide) ?_
  refine gx_iast C G rfl nlU28 ntU28 (show rng 2 by decide) (show rng (-2) by decide) (by decide) (ixl ngU28 (by decide)) dX7_init_48 (fun H locs G => ?_)
  obtain ⟨S35, eS35⟩ : ∃ q9 : Me, q9 = sI S34 U28.1 (Int.toNat 2) (-2) := ⟨_, rfl⟩
  have h := h S35 eS35
  rw [← eS35] at G
  refine gx_dupR C dX7_init_49 ?_
  refine gx_iconst C dX7_init_50 ?_
  refine gx_bipush C dX7_init_51 (by decide) ?_
  refine gx_iast C G rfl nlU28 ntU28 (show rng 3 by decide) (show rng (-2) by decide) (by decide) (ixl ngU28 (by decide)) dX7_init_53 (fun H locs G => ?_)
  obtain ⟨S36, eS36⟩ : ∃ q9 : Me, q9 = sI S35 U28.1 (Int.toNat 3) (-2) := ⟨_, rfl⟩
  have h := h S36 eS36
  rw [← eS36] at G
  obtain ⟨U37, rfl⟩ : ∃ q : Vt, q = V := ⟨_, rfl⟩
  have h := h U37 rfl
  refine gx_putF C hmn G rfl l31 (fo6_3 t32) (Or.inr ⟨_, rfl⟩) rfl nlU28 uw_155 dX7_init_54 (fun V H locs eV hex1 G => ?_)
  have h := h V eV
  have v38 := hex1.vl v30
  have l39 := hex1.lt l31
  have t40 := hex1.ty l31 t32
  have hag := hag
  have hex := hex.tr hex1
  refine gx_aload_n C hl dX7_init_57 rfl ?_
  refine gx_null (ad := ad) C dX7_init_58 ?_
  refine gx_putP C G rfl l39 (fo6_4 t40) (Or.inl ⟨_, rfl⟩) vnone uw_157 (fun _ h9 => h9) dX7_init_59 (fun H locs G => ?_)
  obtain ⟨S41, eS41⟩ : ∃ q9 : Me, q9 = sP S36 o 4 none := ⟨_, rfl⟩
  have h := h S41 eS41
  rw [← eS41] at G
  refine gx_aload_n C hl dX7_init_62 rfl ?_
  refine gx_null (ad := ad) C dX7_init_63 ?_
  refine gx_putP C G rfl l39 (fo6_5 t40) (Or.inl ⟨_, rfl⟩) vnone uw_158 (fun _ h9 => h9) dX7_init_64 (fun H locs G => ?_)
  obtain ⟨S42, eS42⟩ : ∃ q9 : Me, q9 = sP S41 o 5 none := ⟨_, rfl⟩
  have h := h S42 eS42
  rw [← eS42] at G
  refine gx_aload_n C hl dX7_init_67 rfl ?_
  refine gx_iconst C dX7_init_68 ?_
  refine gx_putI C G rfl l39 (fo6_6 t40) (show rng 0 by decide) uw_159 (fun _ h9 => h9) dX7_init_69 (fun H locs G => ?_)
  obtain ⟨S43, eS43⟩ : ∃ q9 : Me, q9 = sI S42 o 6 0 := ⟨_, rfl⟩
  have h := h S43 eS43
  rw [← eS43] at G
  refine gx_aload_n C hl dX7_init_72 rfl ?_
  refine gx_iconst C dX7_init_73 ?_
  refine gx_putI C G rfl l39 (fo6_7 t40) (show rng 0 by decide) uw_161 (fun _ h9 => h9) dX7_init_74 (fun H locs G => ?_)
  obtain ⟨S44, eS44⟩ : ∃ q9 : Me, q9 = sI S43 o 7 0 := ⟨_, rfl⟩
  have h := h S44 eS44
  rw [← eS44] at G
  refine gx_aload_n C hl dX7_init_77 rfl ?_
  refine gx_iconst C dX7_init_78 ?_
  refine gx_putI C G rfl l39 (fo6_8 t40) (show rng 0 by decide) uw_163 (fun _ h9 => h9) dX7_init_79 (fun H locs G => ?_)
  obtain ⟨S45, eS45⟩ : ∃ q9 : Me, q9 = sI S44 o 8 0 := ⟨_, rfl⟩
  have h := h S45 eS45
  rw [← eS45] at G
  refine gx_aload_n C hl dX7_init_82 rfl ?_
  refine gx_iconst C dX7_init_83 ?_
  refine gx_putI C G rfl l39 (fo6_9 t40) (show rng 0 by decide) uw_165 (fun _ h9 => h9) dX7_init_84 (fun H locs G => ?_)
  obtain ⟨S46, eS46⟩ : ∃ q9 : Me, q9 = sI S45 o 9 0 := ⟨_, rfl⟩
  have h := h S46 eS46
  rw [← eS46] at G
  refine gx_aload_n C hl dX7_init_87 rfl ?_
  refine gx_iconst C dX7_init_88 ?_
  refine gx_putI C G rfl l39 (fo6_10 t40) (show rng 0 by decide) uw_166 (fun _ h9 => h9) dX7_init_89 (fun H locs G => ?_)
  obtain ⟨S47, eS47⟩ : ∃ q9 : Me, q9 = sI S46 o 10 0 := ⟨_, rfl⟩
  have h := h S47 eS47
  rw [← eS47] at G
  exact gx_vretC C G hag hex hret h dX7_init_92 ⟨Nat.le_of_ble_eq_true rfl, Nat.le_of_ble_eq_true rfl⟩
def PT_X1_init (V : Vt) (o : Nat) (S : Me) (Q : Vt → Me → Prop) : Prop := ∀ U1 : Vt, U1 = V → ∀ V : Vt, V = nV U1 12 (Int.toNat 400) → ∀ S2 : Me, S2 = nS U1 S → ∀ U6 : Vt, U6 = V → ∀ V : Vt, V = fV U6 o 0 U1.1 → ∀ U10 : Vt, U10 = V → ∀ V : Vt, V = nV U10 12 (Int.toNat 400) → ∀ S11 : Me, S11 = nS U10 S2 → ∀ U15 : Vt, U15 = V → ∀ V : Vt, V = fV U15 o 1 U10.1 → ∀ U19 : Vt, U19 = V → ∀ V : Vt, V = nV U19 12 (Int.toNat 400) → ∀ S20 : Me, S20 = nS U19 S11 → ∀ U24 : Vt, U24 = V → ∀ V : Vt, V = fV U24 o 2 U19.1 → ∀ U28 : Vt, U28 = V → ∀ V : Vt, V = nV U28 12 (Int.toNat 400) → ∀ S29 : Me, S29 = nS U28 S20 → ∀ U33 : Vt, U33 = V → ∀ V : Vt, V = fV U33 o 3 U28.1 → ∀ U37 : Vt, U37 = V → ∀ V : Vt, V = nV U37 12 (Int.toNat 400) → ∀ S38 : Me, S38 = nS U37 S29 → ∀ U42 : Vt, U42 = V → ∀ V : Vt, V = fV U42 o 4 U37.1 → ∀ U46 : Vt, U46 = V → ∀ V : Vt, V = nV U46 12 (Int.toNat 400) → ∀ S47 : Me, S47 = nS U46 S38 → ∀ U51 : Vt, U51 = V → ∀ V : Vt, V = fV U51 o 5 U46.1 → ∀ U55 : Vt, U55 = V → ∀ V : Vt, V = nV U55 4 0 → ∀ S56 : Me, S56 = nS U55 S47 → PT_X5_init V U55.1 S56 (fun V S60 => ∀ U67 : Vt, U67 = V → ∀ V : Vt, V = fV U67 o 6 U55.1 → ∀ S71 : Me, S71 = sI S60 o 7 0 → ∀ S72 : Me, S72 = sI S71 o 8 (-2) → Q V S72)
theorem hd_X1_init : yX1_init.cls ≠ "java/lang/invoke/MethodHandle" ∧ yX1_init.cls ≠ "java/lang/invoke/VarHandle" ∧ (parseMethodDescriptor yX1_init.desc).map (fun d => d.parameters.length) = some 0 := by decide +kernel
set_option maxHeartbeats 4000000 in
set_option maxRecDepth 100000 in
theorem c_X1_init (l : Launch) (D : va_G) (cy : ClassId × ClassId × ClassId × ClassId) (ad : Nat → Nat) {V : Vt} {S : Me} {o : Nat} (ho : o < V.1) (ht : V.2.1 o = 0) {Q : Vt → Me → Prop} (h : PT_X1_init V o S Q) : KC l D cy yX1_init cX1_init 1 3 63 14 2438 ad V S [.inr (some o)] Q := by
  refine KC.of (by decide) rfl (Nat.le_of_ble_eq_true rfl) (own := RX1) (fun p e s m args below meth c A ls H locs eA C hret hml hmn hl G => ?_)
  have hl : lo ad ls [some (.inr (some o))] := hl
  obtain ⟨ad0, ead0⟩ : ∃ q : Nat → Nat, q = ad := ⟨_, rfl⟩
  obtain ⟨V0, eV0⟩ : ∃ q : Vt, q = V := ⟨_, rfl⟩
  have hag : ∀ k, k < V0.1 → ad k = ad0 k := fun k _ => by rw [ead0]
  have hex : exT V0 V := by rw [eV0]; exact exT.rf V
  rw [← ead0, ← eV0]
  clear eV0 ead0
  clear eA
  unfold PT_X1_init at h
  refine gx_aload_n C hl dX1_init_0 rfl ?_
  refine gx_objInit C hl hml rfl uw_88 ⟨Nat.le_of_ble_eq_true rfl, Nat.le_of_ble_eq_true rfl⟩ (hw_le ad [] rfl (Nat.le_of_ble_eq_true rfl)) dX1_init_1 ?_
  refine gx_aload_n C hl dX1_init_4 rfl ?_
  refine gx_sipush C dX1_init_5 (by decide) ?_
  obtain ⟨U1, rfl⟩ : ∃ q : Vt, q = V := ⟨_, rfl⟩
  have h := h U1 rfl
  refine gx_newa C G hl (okP_S (okv_R (vsome ho)) okP_0) (show rng 400 by decide) 400 (by decide) (by decide) (Nat.le_of_ble_eq_true rfl) (Nat.le_of_ble_eq_true rfl) (Nat.le_of_ble_eq_true rfl) [.inr (some o)] rfl (okS_S (okv_R (vsome ho)) okS_0) dX1_init_8 (fun ad V S2 H eV eS hag1 hex1 hl G => ?_)
  have h := h V eV S2 eS
  have hex1 := exT.of hex1
  have nlU1 : U1.1 < V.1 := by rw [eV]; exact Nat.lt_succ_self _
  have ntU1 : V.2.1 U1.1 = 12 := by rw [eV]; simp [nV]
  have v3 := hex1.vl (vsome ho)
  have l4 := hex1.lt ho
  have t5 := hex1.ty ho ht
  have hag := fun k hk => (hag1 k (hex.lt hk)).trans (hag k hk)
  have hex := hex.tr hex1
  have ngU1 : V.2.2.1 U1.1 = 400 := by rw [eV]; simp [nV]
  obtain ⟨U6, rfl⟩ : ∃ q : Vt, q = V := ⟨_, rfl⟩
  have h := h U6 rfl
  refine gx_putF C hmn G rfl l4 (fo0_0 t5) (Or.inr ⟨_, rfl⟩) rfl nlU1 uw_91 dX1_init_10 (fun V H locs eV hex1 G => ?_)
  have h := h V eV
  have v7 := hex1.vl v3
  have l8 := hex1.lt l4
  have t9 := hex1.ty l4 t5
  have hag := hag
  have hex := hex.tr hex1
  refine gx_aload_n C hl dX1_init_13 rfl ?_
  refine gx_sipush C dX1_init_14 (by decide) ?_
  obtain ⟨U10, rfl⟩ : ∃ q : Vt, q = V := ⟨_, rfl⟩
  have h := h U10 rfl
  refine gx_newa C G hl (okP_S (okv_R v7) okP_0) (show rng 400 by decide) 400 (by decide) (by decide) (Nat.le_of_ble_eq_true rfl) (Nat.le_of_ble_eq_true rfl) (Nat.le_of_ble_eq_true rfl) [.inr (some o)] rfl (okS_S (okv_R v7) okS_0) dX1_init_17 (fun ad V S11 H eV eS hag1 hex1 hl G => ?_)
  have h := h V eV S11 eS
  have hex1 := exT.of hex1
  have nlU10 : U10.1 < V.1 := by rw [eV]; exact Nat.lt_succ_self _
  have ntU10 : V.2.1 U10.1 = 12 := by rw [eV]; simp [nV]
  have v12 := hex1.vl v7
  have l13 := hex1.lt l8
  have t14 := hex1.ty l8 t9
  have hag := fun k hk => (hag1 k (hex.lt hk)).trans (hag k hk)
  have hex := hex.tr hex1
  have ngU10 : V.2.2.1 U10.1 = 400 := by rw [eV]; simp [nV]
  obtain ⟨U15, rfl⟩ : ∃ q : Vt, q = V := ⟨_, rfl⟩
  have h := h U15 rfl
  refine gx_putF C hmn G rfl l13 (fo0_1 t14) (Or.inr ⟨_, rfl⟩) rfl nlU10 uw_93 dX1_init_19 (fun V H locs eV hex1 G => ?_)
  have h := h V eV
  have v16 := hex1.vl v12
  have l17 := hex1.lt l13
  have t18 := hex1.ty l13 t14
  have hag := hag
  have hex := hex.tr hex1
  refine gx_aload_n C hl dX1_init_22 rfl ?_
  refine gx_sipush C dX1_init_23 (by decide) ?_
  obtain ⟨U19, rfl⟩ : ∃ q : Vt, q = V := ⟨_, rfl⟩
  have h := h U19 rfl
  refine gx_newa C G hl (okP_S (okv_R v16) okP_0) (show rng 400 by decide) 400 (by decide) (by decide) (Nat.le_of_ble_eq_true rfl) (Nat.le_of_ble_eq_true rfl) (Nat.le_of_ble_eq_true rfl) [.inr (some o)] rfl (okS_S (okv_R v16) okS_0) dX1_init_26 (fun ad V S20 H eV eS hag1 hex1 hl G => ?_)
  have h := h V eV S20 eS
  have hex1 := exT.of hex1
  have nlU19 : U19.1 < V.1 := by rw [eV]; exact Nat.lt_succ_self _
  have ntU19 : V.2.1 U19.1 = 12 := by rw [eV]; simp [nV]
  have v21 := hex1.vl v16
  have l22 := hex1.lt l17
  have t23 := hex1.ty l17 t18
  have hag := fun k hk => (hag1 k (hex.lt hk)).trans (hag k hk)
  have hex := hex.tr hex1
  have ngU19 : V.2.2.1 U19.1 = 400 := by rw [eV]; simp [nV]
  obtain ⟨U24, rfl⟩ : ∃ q : Vt, q = V := ⟨_, rfl⟩
  have h := h U24 rfl
  refine gx_putF C hmn G rfl l22 (fo0_2 t23) (Or.inr ⟨_, rfl⟩) rfl nlU19 uw_95 dX1_init_28 (fun V H locs eV hex1 G => ?_)
  have h := h V eV
  have v25 := hex1.vl v21
  have l26 := hex1.lt l22
  have t27 := hex1.ty l22 t23
  have hag := hag
  have hex := hex.tr hex1
  refine gx_aload_n C hl dX1_init_31 rfl ?_
  refine gx_sipush C dX1_init_32 (by decide) ?_
  obtain ⟨U28, rfl⟩ : ∃ q : Vt, q = V := ⟨_, rfl⟩
  have h := h U28 rfl
  refine gx_newa C G hl (okP_S (okv_R v25) okP_0) (show rng 400 by decide) 400 (by decide) (by decide) (Nat.le_of_ble_eq_true rfl) (Nat.le_of_ble_eq_true rfl) (Nat.le_of_ble_eq_true rfl) [.inr (some o)] rfl (okS_S (okv_R v25) okS_0) dX1_init_35 (fun ad V S29 H eV eS hag1 hex1 hl G => ?_)
  have h := h V eV S29 eS
  have hex1 := exT.of hex1
  have nlU28 : U28.1 < V.1 := by rw [eV]; exact Nat.lt_succ_self _
  have ntU28 : V.2.1 U28.1 = 12 := by rw [eV]; simp [nV]
  have v30 := hex1.vl v25
  have l31 := hex1.lt l26
  have t32 := hex1.ty l26 t27
  have hag := fun k hk => (hag1 k (hex.lt hk)).trans (hag k hk)
  have hex := hex.tr hex1
  have ngU28 : V.2.2.1 U28.1 = 400 := by rw [eV]; simp [nV]
  obtain ⟨U33, rfl⟩ : ∃ q : Vt, q = V := ⟨_, rfl⟩
  have h := h U33 rfl
  refine gx_putF C hmn G rfl l31 (fo0_3 t32) (Or.inr ⟨_, rfl⟩) rfl nlU28 uw_97 dX1_init_37 (fun V H locs eV hex1 G => ?_)
  have h := h V eV
  have v34 := hex1.vl v30
  have l35 := hex1.lt l31
  have t36 := hex1.ty l31 t32
  have hag := hag
  have hex := hex.tr hex1
  refine gx_aload_n C hl dX1_init_40 rfl ?_
  refine gx_sipush C dX1_init_41 (by decide) ?_
  obtain ⟨U37, rfl⟩ : ∃ q : Vt, q = V := ⟨_, rfl⟩
  have h := h U37 rfl
  refine gx_newa C G hl (okP_S (okv_R v34) okP_0) (show rng 400 by decide) 400 (by decide) (by decide) (Nat.le_of_ble_eq_true rfl) (Nat.le_of_ble_eq_true rfl) (Nat.le_of_ble_eq_true rfl) [.inr (some o)] rfl (okS_S (okv_R v34) okS_0) dX1_init_44 (fun ad V S38 H eV eS hag1 hex1 hl G => ?_)
  have h := h V eV S38 eS
  have hex1 := exT.of hex1
  have nlU37 : U37.1 < V.1 := by rw [eV]; exact Nat.lt_succ_self _
  have ntU37 : V.2.1 U37.1 = 12 := by rw [eV]; simp [nV]
  have v39 := hex1.vl v34
  have l40 := hex1.lt l35
  have t41 := hex1.ty l35 t36
  have hag := fun k hk => (hag1 k (hex.lt hk)).trans (hag k hk)
  have hex := hex.tr hex1
  have ngU37 : V.2.2.1 U37.1 = 400 := by rw [eV]; simp [nV]
  obtain ⟨U42, rfl⟩ : ∃ q : Vt, q = V := ⟨_, rfl⟩
  have h := h U42 rfl
  refine gx_putF C hmn G rfl l40 (fo0_4 t41) (Or.inr ⟨_, rfl⟩) rfl nlU37 uw_99 dX1_init_46 (fun V H locs eV hex1 G => ?_)
  have h := h V eV
  have v43 := hex1.vl v39
  have l44 := hex1.lt l40
  have t45 := hex1.ty l40 t41
  have hag := hag
  have hex := hex.tr hex1
  refine gx_aload_n C hl dX1_init_49 rfl ?_
  refine gx_sipush C dX1_init_50 (by decide) ?_
  obtain ⟨U46, rfl⟩ : ∃ q : Vt, q = V := ⟨_, rfl⟩
  have h := h U46 rfl
  refine gx_newa C G hl (okP_S (okv_R v43) okP_0) (show rng 400 by decide) 400 (by decide) (by decide) (Nat.le_of_ble_eq_true rfl) (Nat.le_of_ble_eq_true rfl) (Nat.le_of_ble_eq_true rfl) [.inr (some o)] rfl (okS_S (okv_R v43) okS_0) dX1_init_53 (fun ad V S47 H eV eS hag1 hex1 hl G => ?_)
  have h := h V eV S47 eS
  have hex1 := exT.of hex1
  have nlU46 : U46.1 < V.1 := by rw [eV]; exact Nat.lt_succ_self _
  have ntU46 : V.2.1 U46.1 = 12 := by rw [eV]; simp [nV]
  have v48 := hex1.vl v43
  have l49 := hex1.lt l44
  have t50 := hex1.ty l44 t45
  have hag := fun k hk => (hag1 k (hex.lt hk)).trans (hag k hk)
  have hex := hex.tr hex1
  have ngU46 : V.2.2.1 U46.1 = 400 := by rw [eV]; simp [nV]
  obtain ⟨U51, rfl⟩ : ∃ q : Vt, q = V := ⟨_, rfl⟩
  have h := h U51 rfl
  refine gx_putF C hmn G rfl l49 (fo0_5 t50) (Or.inr ⟨_, rfl⟩) rfl nlU46 uw_101 dX1_init_55 (fun V H locs eV hex1 G => ?_)
  have h := h V eV
  have v52 := hex1.vl v48
  have l53 := hex1.lt l49
  have t54 := hex1.ty l49 t50
  have hag := hag
  have hex := hex.tr hex1
  refine gx_aload_n C hl dX1_init_58 rfl ?_
  obtain ⟨U55, rfl⟩ : ∃ q : Vt, q = V := ⟨_, rfl⟩
  have h := h U55 rfl
  refine gx_new C G hl (okP_S (okv_R v52) okP_0) (t := 4) rfl iu4 tyX5 tyX5_ok (df_4 ad) (by decide) uw_89 uw_32 uw_2 (Nat.le_of_ble_eq_true rfl) (Nat.le_of_ble_eq_true rfl) [.inr (some o)] rfl (okS_S (okv_R v52) okS_0) dX1_init_59 (fun ad V S56 H eV eS hag1 hex1 hl G => ?_)
  have h := h V eV S56 eS
  have hex1 := exT.of hex1
  have nlU55 : U55.1 < V.1 := by rw [eV]; exact Nat.lt_succ_self _
  have ntU55 : V.2.1 U55.1 = 4 := by rw [eV]; simp [nV]
  have v57 := hex1.vl v52
  have l58 := hex1.lt l53
  have t59 := hex1.ty l53 t54
  have hag := fun k hk => (hag1 k (hex.lt hk)).trans (hag k hk)
  have hex := hex.tr hex1
  refine gx_dupR C dX1_init_62 ?_
  refine gx_callIC C G hl (okP_S (okv_R v57) okP_0) hml (c_X5_init l D cy ad nlU55 ntU55 h) rfl uw_35 uw_90 uw_34 uw_2 rfl hd_X5_init ⟨Nat.le_of_ble_eq_true rfl, Nat.le_of_ble_eq_true rfl⟩ ⟨Nat.le_of_ble_eq_true rfl, Nat.le_of_ble_eq_true rfl⟩ [.inr (some U55.1), .inr (some o)] (okS_S (okv_R (vsome nlU55)) (okS_S (okv_R v57) okS_0)) rfl (Nat.le_of_ble_eq_true rfl) dX1_init_63 (fun ad V S60 H locs h hag1 hex1 hl G => ?_)
  have v61 := hex1.vl v57
  have l62 := hex1.lt l58
  have t63 := hex1.ty l58 t59
  have v64 := hex1.vl (vsome nlU55)
  have l65 := hex1.lt nlU55
  have t66 := hex1.ty nlU55 ntU55
  have hag := fun k hk => (hag1 k (hex.lt hk)).trans (hag k hk)
  have hex := hex.tr hex1
  obtain ⟨U67, rfl⟩ : ∃ q : Vt, q = V := ⟨_, rfl⟩
  have h := h U67 rfl
  refine gx_putF C hmn G rfl l62 (fo0_6 t63) (Or.inl ⟨_, rfl⟩) rfl l65 uw_103 dX1_init_66 (fun V H locs eV hex1 G => ?_)
  have h := h V eV
  have v68 := hex1.vl v61
  have l69 := hex1.lt l62
  have t70 := hex1.ty l62 t63
  have hag := hag
  have hex := hex.tr hex1
  refine gx_aload_n C hl dX1_init_69 rfl ?_
  refine gx_iconst C dX1_init_70 ?_
  refine gx_putI C G rfl l69 (fo0_7 t70) (show rng 0 by decide) uw_104 (fun _ h9 => h9) dX1_init_71 (fun H locs G => ?_)
  obtain ⟨S71, eS71⟩ : ∃ q9 : Me, q9 = sI S60 o 7 0 := ⟨_, rfl⟩
  have h := h S71 eS71
  rw [← eS71] at G
  refine gx_aload_n C hl dX1_init_74 rfl ?_
  refine gx_bipush C dX1_init_75 (by decide) ?_
  refine gx_putI C G rfl l69 (fo0_8 t70) (show rng (-2) by decide) uw_106 (fun _ h9 => h9) dX1_init_77 (fun H locs G => ?_)
  obtain ⟨S72, eS72⟩ : ∃ q9 : Me, q9 = sI S71 o 8 (-2) := ⟨_, rfl⟩
  have h := h S72 eS72
  rw [← eS72] at G
  exact gx_vretC C G hag hex hret h dX1_init_80 ⟨Nat.le_of_ble_eq_true rfl, Nat.le_of_ble_eq_true rfl⟩
def PT_X8_init (V : Vt) (o : Nat) (S : Me) (Q : Vt → Me → Prop) : Prop := ∀ S1 : Me, S1 = sP S o 0 none → ∀ S2 : Me, S2 = sP S1 o 1 none → ∀ S3 : Me, S3 = sI S2 o 2 0 → Q V S3
theorem hd_X8_init : yX8_init.cls ≠ "java/lang/invoke/MethodHandle" ∧ yX8_init.cls ≠ "java/lang/invoke/VarHandle" ∧ (parseMethodDescriptor yX8_init.desc).map (fun d => d.parameters.length) = some 0 := by decide +kernel
set_option maxHeartbeats 4000000 in
set_option maxRecDepth 100000 in
theorem c_X8_init (l : Launch) (D : va_G) (cy : ClassId × ClassId × ClassId × ClassId) (ad : Nat → Nat) {V : Vt} {S : Me} {o : Nat} (ho : o < V.1) (ht : V.2.1 o = 7) {Q : Vt → Me → Prop} (h : PT_X8_init V o S Q) : KC l D cy yX8_init cX8_init 1 1 20 0 0 ad V S [.inr (some o)] Q := by
  refine KC.of (by decide) rfl (Nat.le_of_ble_eq_true rfl) (own := RX8) (fun p e s m args below meth c A ls H locs eA C hret hml hmn hl G => ?_)
  have hl : lo ad ls [some (.inr (some o))] := hl
  obtain ⟨ad0, ead0⟩ : ∃ q : Nat → Nat, q = ad := ⟨_, rfl⟩
  obtain ⟨V0, eV0⟩ : ∃ q : Vt, q = V := ⟨_, rfl⟩
  have hag : ∀ k, k < V0.1 → ad k = ad0 k := fun k _ => by rw [ead0]
  have hex : exT V0 V := by rw [eV0]; exact exT.rf V
  rw [← ead0, ← eV0]
  clear eV0 ead0
  clear eA
  unfold PT_X8_init at h
  refine gx_aload_n C hl dX8_init_0 rfl ?_
  refine gx_objInit C hl hml rfl uw_201 ⟨Nat.le_of_ble_eq_true rfl, Nat.le_of_ble_eq_true rfl⟩ (hw_le ad [] rfl (Nat.le_of_ble_eq_true rfl)) dX8_init_1 ?_
  refine gx_aload_n C hl dX8_init_4 rfl ?_
  refine gx_null (ad := ad) C dX8_init_5 ?_
  refine gx_putP C G rfl ho (fo7_0 ht) (Or.inl ⟨_, rfl⟩) vnone uw_202 (fun _ h9 => h9) dX8_init_6 (fun H locs G => ?_)
  obtain ⟨S1, eS1⟩ : ∃ q9 : Me, q9 = sP S o 0 none := ⟨_, rfl⟩
  have h := h S1 eS1
  rw [← eS1] at G
  refine gx_aload_n C hl dX8_init_9 rfl ?_
  refine gx_null (ad := ad) C dX8_init_10 ?_
  refine gx_putP C G rfl ho (fo7_1 ht) (Or.inr ⟨_, rfl⟩) vnone uw_204 (fun _ h9 => h9) dX8_init_11 (fun H locs G => ?_)
  obtain ⟨S2, eS2⟩ : ∃ q9 : Me, q9 = sP S1 o 1 none := ⟨_, rfl⟩
  have h := h S2 eS2
  rw [← eS2] at G
  refine gx_aload_n C hl dX8_init_14 rfl ?_
  refine gx_iconst C dX8_init_15 ?_
  refine gx_putZ C G rfl ho (fo7_2 ht) (Or.inl rfl) uw_206 (fun _ h9 => h9) dX8_init_16 (fun H locs G => ?_)
  obtain ⟨S3, eS3⟩ : ∃ q9 : Me, q9 = sI S2 o 2 0 := ⟨_, rfl⟩
  have h := h S3 eS3
  rw [← eS3] at G
  exact gx_vretC C G hag hex hret h dX8_init_19 ⟨Nat.le_of_ble_eq_true rfl, Nat.le_of_ble_eq_true rfl⟩
def PT_X12_init (V : Vt) (o : Nat) (S : Me) (Q : Vt → Me → Prop) : Prop := ∀ U1 : Vt, U1 = V → ∀ V : Vt, V = nV U1 12 (Int.toNat 13) → ∀ S2 : Me, S2 = nS U1 S → ∀ S6 : Me, S6 = sI S2 U1.1 (Int.toNat 0) 3 → ∀ S7 : Me, S7 = sI S6 U1.1 (Int.toNat 1) 8 → ∀ S8 : Me, S8 = sI S7 U1.1 (Int.toNat 2) 3 → ∀ S9 : Me, S9 = sI S8 U1.1 (Int.toNat 3) 2 → ∀ S10 : Me, S10 = sI S9 U1.1 (Int.toNat 4) 4 → ∀ S11 : Me, S11 = sI S10 U1.1 (Int.toNat 5) 4 → ∀ S12 : Me, S12 = sI S11 U1.1 (Int.toNat 6) 2 → ∀ S13 : Me, S13 = sI S12 U1.1 (Int.toNat 7) 5 → ∀ S14 : Me, S14 = sI S13 U1.1 (Int.toNat 8) 6 → ∀ S15 : Me, S15 = sI S14 U1.1 (Int.toNat 9) 2 → ∀ S16 : Me, S16 = sI S15 U1.1 (Int.toNat 10) 12 → ∀ S17 : Me, S17 = sI S16 U1.1 (Int.toNat 11) 10 → ∀ S18 : Me, S18 = sI S17 U1.1 (Int.toNat 12) 3 → ∀ U19 : Vt, U19 = V → ∀ V : Vt, V = fV U19 o 1 U1.1 → ∀ S23 : Me, S23 = sI S18 o 3 4 → ∀ S24 : Me, S24 = sI S23 o 5 4 → ∀ S25 : Me, S25 = sI S24 o 6 1 → ∀ U26 : Vt, U26 = V → ∀ V : Vt, V = nV U26 12 (Int.toNat 4) → ∀ S27 : Me, S27 = nS U26 S25 → ∀ S31 : Me, S31 = sI S27 U26.1 (Int.toNat 0) (-2) → ∀ S32 : Me, S32 = sI S31 U26.1 (Int.toNat 1) (-2) → ∀ S33 : Me, S33 = sI S32 U26.1 (Int.toNat 2) (-2) → ∀ S34 : Me, S34 = sI S33 U26.1 (Int.toNat 3) (-2) → ∀ U35 : Vt, U35 = V → ∀ V : Vt, V = fV U35 o 11 U26.1 → ∀ U39 : Vt, U39 = V → ∀ V : Vt, V = nV U39 12 (Int.toNat 1024) → ∀ S40 : Me, S40 = nS U39 S34 → ∀ U44 : Vt, U44 = V → ∀ V : Vt, V = fV U44 o 12 U39.1 → ∀ U48 : Vt, U48 = V → ∀ V : Vt, V = nV U48 12 (Int.toNat 400) → ∀ S49 : Me, S49 = nS U48 S40 → ∀ U53 : Vt, U53 = V → ∀ V : Vt, V = fV U53 o 15 U48.1 → ∀ U57 : Vt, U57 = V → ∀ V : Vt, V = nV U57 12 (Int.toNat 400) → ∀ S58 : Me, S58 = nS U57 S49 → ∀ U62 : Vt, U62 = V → ∀ V : Vt, V = fV U62 o 16 U57.1 → ∀ U66 : Vt, U66 = V → ∀ V : Vt, V = nV U66 12 (Int.toNat 400) → ∀ S67 : Me, S67 = nS U66 S58 → ∀ U71 : Vt, U71 = V → ∀ V : Vt, V = fV U71 o 17 U66.1 → ∀ U75 : Vt, U75 = V → ∀ V : Vt, V = nV U75 12 (Int.toNat 400) → ∀ S76 : Me, S76 = nS U75 S67 → ∀ U80 : Vt, U80 = V → ∀ V : Vt, V = fV U80 o 18 U75.1 → ∀ U84 : Vt, U84 = V → ∀ V : Vt, V = nV U84 12 (Int.toNat 400) → ∀ S85 : Me, S85 = nS U84 S76 → ∀ U89 : Vt, U89 = V → ∀ V : Vt, V = fV U89 o 19 U84.1 → ∀ U93 : Vt, U93 = V → ∀ V : Vt, V = nV U93 12 (Int.toNat 400) → ∀ S94 : Me, S94 = nS U93 S85 → ∀ U98 : Vt, U98 = V → ∀ V : Vt, V = fV U98 o 20 U93.1 → ∀ U102 : Vt, U102 = V → ∀ V : Vt, V = nV U102 12 (Int.toNat 400) → ∀ S103 : Me, S103 = nS U102 S94 → ∀ U107 : Vt, U107 = V → ∀ V : Vt, V = fV U107 o 21 U102.1 → ∀ U111 : Vt, U111 = V → ∀ V : Vt, V = nV U111 12 (Int.toNat 400) → ∀ S112 : Me, S112 = nS U111 S103 → ∀ U116 : Vt, U116 = V → ∀ V : Vt, V = fV U116 o 22 U111.1 → ∀ U120 : Vt, U120 = V → ∀ V : Vt, V = nV U120 12 (Int.toNat 4) → ∀ S121 : Me, S121 = nS U120 S112 → ∀ U125 : Vt, U125 = V → ∀ V : Vt, V = fV U125 o 23 U120.1 → ∀ S129 : Me, S129 = sI S121 o 24 (-1) → ∀ U130 : Vt, U130 = V → ∀ V : Vt, V = nV U130 12 (Int.toNat 40) → ∀ S131 : Me, S131 = nS U130 S129 → ∀ U135 : Vt, U135 = V → ∀ V : Vt, V = fV U135 o 27 U130.1 → ∀ U139 : Vt, U139 = V → ∀ V : Vt, V = nV U139 12 (Int.toNat 40) → ∀ S140 : Me, S140 = nS U139 S131 → ∀ U144 : Vt, U144 = V → ∀ V : Vt, V = fV U144 o 28 U139.1 → ∀ U148 : Vt, U148 = V → ∀ V : Vt, V = nV U148 12 (Int.toNat 40) → ∀ S149 : Me, S149 = nS U148 S140 → ∀ U153 : Vt, U153 = V → ∀ V : Vt, V = fV U153 o 29 U148.1 → ∀ U157 : Vt, U157 = V → ∀ V : Vt, V = nV U157 12 (Int.toNat 400) → ∀ S158 : Me, S158 = nS U157 S149 → ∀ U162 : Vt, U162 = V → ∀ V : Vt, V = fV U162 o 31 U157.1 → ∀ U166 : Vt, U166 = V → ∀ V : Vt, V = nV U166 12 (Int.toNat 400) → ∀ S167 : Me, S167 = nS U166 S158 → ∀ U171 : Vt, U171 = V → ∀ V : Vt, V = fV U171 o 32 U166.1 → ∀ U175 : Vt, U175 = V → ∀ V : Vt, V = nV U175 12 (Int.toNat 400) → ∀ S176 : Me, S176 = nS U175 S167 → ∀ U180 : Vt, U180 = V → ∀ V : Vt, V = fV U180 o 33 U175.1 → ∀ U184 : Vt, U184 = V → ∀ V : Vt, V = nV U184 12 (Int.toNat 400) → ∀ S185 : Me, S185 = nS U184 S176 → ∀ U189 : Vt, U189 = V → ∀ V : Vt, V = fV U189 o 34 U184.1 → ∀ U193 : Vt, U193 = V → ∀ V : Vt, V = nV U193 12 (Int.toNat 400) → ∀ S194 : Me, S194 = nS U193 S185 → ∀ U198 : Vt, U198 = V → ∀ V : Vt, V = fV U198 o 35 U193.1 → ∀ U202 : Vt, U202 = V → ∀ V : Vt, V = nV U202 12 (Int.toNat 400) → ∀ S203 : Me, S203 = nS U202 S194 → ∀ U207 : Vt, U207 = V → ∀ V : Vt, V = fV U207 o 36 U202.1 → ∀ S211 : Me, S211 = sI S203 o 37 (-2) → ∀ U212 : Vt, U212 = V → ∀ V : Vt, V = nV U212 12 (Int.toNat 12) → ∀ S213 : Me, S213 = nS U212 S211 → ∀ U217 : Vt, U217 = V → ∀ V : Vt, V = fV U217 o 38 U212.1 → ∀ U221 : Vt, U221 = V → ∀ V : Vt, V = nV U221 12 (Int.toNat 400) → ∀ S222 : Me, S222 = nS U221 S213 → ∀ U226 : Vt, U226 = V → ∀ V : Vt, V = fV U226 o 43 U221.1 → ∀ U230 : Vt, U230 = V → ∀ V : Vt, V = nV U230 12 (Int.toNat 1024) → ∀ S231 : Me, S231 = nS U230 S222 → ∀ U235 : Vt, U235 = V → ∀ V : Vt, V = fV U235 o 44 U230.1 → ∀ U239 : Vt, U239 = V → ∀ V : Vt, V = nV U239 12 (Int.toNat 8) → ∀ S240 : Me, S240 = nS U239 S231 → ∀ U244 : Vt, U244 = V → ∀ V : Vt, V = fV U244 o 45 U239.1 → ∀ U248 : Vt, U248 = V → ∀ V : Vt, V = nV U248 12 (Int.toNat 8) → ∀ S249 : Me, S249 = nS U248 S240 → ∀ U253 : Vt, U253 = V → ∀ V : Vt, V = fV U253 o 46 U248.1 → ∀ U257 : Vt, U257 = V → ∀ V : Vt, V = nV U257 12 (Int.toNat 8) → ∀ S258 : Me, S258 = nS U257 S249 → ∀ U262 : Vt, U262 = V → ∀ V : Vt, V = fV U262 o 47 U257.1 → ∀ U266 : Vt, U266 = V → ∀ V : Vt, V = nV U266 12 (Int.toNat 480) → ∀ S267 : Me, S267 = nS U266 S258 → ∀ U271 : Vt, U271 = V → ∀ V : Vt, V = fV U271 o 48 U266.1 → ∀ U275 : Vt, U275 = V → ∀ V : Vt, V = nV U275 12 (Int.toNat 60) → ∀ S276 : Me, S276 = nS U275 S267 → ∀ U280 : Vt, U280 = V → ∀ V : Vt, V = fV U280 o 49 U275.1 → Q V S276
theorem hd_X12_init : yX12_init.cls ≠ "java/lang/invoke/MethodHandle" ∧ yX12_init.cls ≠ "java/lang/invoke/VarHandle" ∧ (parseMethodDescriptor yX12_init.desc).map (fun d => d.parameters.length) = some 0 := by decide +kernel
set_option maxHeartbeats 4000000 in
set_option maxRecDepth 100000 in
theorem c_X12_init (l : Launch) (D : va_G) (cy : ClassId × ClassId × ClassId × ClassId) (ad : Nat → Nat) {V : Vt} {S : Me} {o : Nat} (ho : o < V.1) (ht : V.2.1 o = 11) {Q : Vt → Me → Prop} (h : PT_X12_init V o S Q) : KC l D cy yX12_init cX12_init 1 1 20 29 8765 ad V S [.inr (some o)] Q := by
  refine KC.of (by decide) rfl (Nat.le_of_ble_eq_true rfl) (own := RX12) (fun p e s m args below meth c A ls H locs eA C hret hml hmn hl G => ?_)
  have hl : lo ad ls [some (.inr (some o))] := hl
  obtain ⟨ad0, ead0⟩ : ∃ q : Nat → Nat, q = ad := ⟨_, rfl⟩
  obtain ⟨V0, eV0⟩ : ∃ q : Vt, q = V := ⟨_, rfl⟩
  have hag : ∀ k, k < V0.1 → ad k = ad0 k := fun k _ => by rw [ead0]
  have hex : exT V0 V := by rw [eV0]; exact exT.rf V
  rw [← ead0, ← eV0]
  clear eV0 ead0
  clear eA
  unfold PT_X12_init at h
  refine gx_aload_n C hl dX12_init_0 rfl ?_
  refine gx_objInit C hl hml rfl uw_954 ⟨Nat.le_of_ble_eq_true rfl, Nat.le_of_ble_eq_true rfl⟩ (hw_le ad [] rfl (Nat.le_of_ble_eq_true rfl)) dX12_init_1 ?_
  refine gx_aload_n C hl dX12_init_4 rfl ?_
  refine gx_bipush C dX12_init_5 (by decide) ?_
  obtain ⟨U1, rfl⟩ : ∃ q : Vt, q = V := ⟨_, rfl⟩
  have h := h U1 rfl
  refine gx_newa C G hl (okP_S (okv_R (vsome ho)) okP_0) (show rng 13 by decide) 13 (by decide) (by decide) (Nat.le_of_ble_eq_true rfl) (Nat.le_of_ble_eq_true rfl) (Nat.le_of_ble_eq_true rfl) [.inr (some o)] rfl (okS_S (okv_R (vsome ho)) okS_0) dX12_init_7 (fun ad V S2 H eV eS hag1 hex1 hl G => ?_)
  have h := h V eV S2 eS
  have hex1 := exT.of hex1
  have nlU1 : U1.1 < V.1 := by rw [eV]; exact Nat.lt_succ_self _
  have ntU1 : V.2.1 U1.1 = 12 := by rw [eV]; simp [nV]
  have v3 := hex1.vl (vsome ho)
  have l4 := hex1.lt ho
  have t5 := hex1.ty ho ht
  have hag := fun k hk => (hag1 k (hex.lt hk)).trans (hag k hk)
  have hex := hex.tr hex1
  have ngU1 : V.2.2.1 U1.1 = 13 := by rw [eV]; simp [nV]
  refine gx_dupR C dX12_init_9 ?_
  refine gx_iconst C dX12_init_10 ?_
  refine gx_iconst C dX12_init_11 ?_
  refine gx_iast C G rfl nlU1 ntU1 (show rng 0 by decide) (show rng 3 by decide) (by decide) (ixl ngU1 (by decide)) dX12_init_12 (fun H locs G => ?_)
  obtain ⟨S6, eS6⟩ : ∃ q9 : Me, q9 = sI S2 U1.1 (Int.toNat 0) 3 := ⟨_, rfl⟩
  have h := h S6 eS6
  rw [← eS6] at G
  refine gx_dupR C dX12_init_13 ?_
  refine gx_iconst C dX12_init_14 ?_
  refine gx_bipush C dX12_init_15 (by decide) ?_
  refine gx_iast C G rfl nlU1 ntU1 (show rng 1 by decide) (show rng 8 by decide) (by decide) (ixl ngU1 (by decide)) dX12_init_17 (fun H locs G => ?_)
  obtain ⟨S7, eS7⟩ : ∃ q9 : Me, q9 = sI S6 U1.1 (Int.toNat 1) 8 := ⟨_, rfl⟩
  have h := h S7 eS7
  rw [← eS7] at G
  refine gx_dupR C dX12_init_18 ?_
  refine gx_iconst C dX12_init_19 ?_
  refine gx_iconst C dX12_init_20 ?_
  refine gx_iast C G rfl nlU1 ntU1 (show rng 2 by decide) (show rng 3 by decide) (by decide) (ixl ngU1 (by decide)) dX12_init_21 (fun H locs G => ?_)
  obtain ⟨S8, eS8⟩ : ∃ q9 : Me, q9 = sI S7 U1.1 (Int.toNat 2) 3 := ⟨_, rfl⟩
  have h := h S8 eS8
  rw [← eS8] at G
  refine gx_dupR C dX12_init_22 ?_
  refine gx_iconst C dX12_init_23 ?_
  refine gx_iconst C dX12_init_24 ?_
  refine gx_iast C G rfl nlU1 ntU1 (show rng 3 by decide) (show rng 2 by decide) (by decide) (ixl ngU1 (by decide)) dX12_init_25 (fun H locs G => ?_)
  obtain ⟨S9, eS9⟩ : ∃ q9 : Me, q9 = sI S8 U1.1 (Int.toNat 3) 2 := ⟨_, rfl⟩
  have h := h S9 eS9
  rw [← eS9] at G
  refine gx_dupR C dX12_init_26 ?_
  refine gx_iconst C dX12_init_27 ?_
  refine gx_iconst C dX12_init_28 ?_
  refine gx_iast C G rfl nlU1 ntU1 (show rng 4 by decide) (show rng 4 by decide) (by decide) (ixl ngU1 (by decide)) dX12_init_29 (fun H locs G => ?_)
  obtain ⟨S10, eS10⟩ : ∃ q9 : Me, q9 = sI S9 U1.1 (Int.toNat 4) 4 := ⟨_, rfl⟩
  have h := h S10 eS10
  rw [← eS10] at G
  refine gx_dupR C dX12_init_30 ?_
  refine gx_iconst C dX12_init_31 ?_
  refine gx_iconst C dX12_init_32 ?_
  refine gx_iast C G rfl nlU1 ntU1 (show rng 5 by decide) (show rng 4 by decide) (by decide) (ixl ngU1 (by decide)) dX12_init_33 (fun H locs G => ?_)
  obtain ⟨S11, eS11⟩ : ∃ q9 : Me, q9 = sI S10 U1.1 (Int.toNat 5) 4 := ⟨_, rfl⟩
  have h := h S11 eS11
  rw [← eS11] at G
  refine gx_dupR C dX12_init_34 ?_
  refine gx_bipush C dX12_init_35 (by decide) ?_
  refine gx_iconst C dX12_init_37 ?_
  refine gx_iast C G rfl nlU1 ntU1 (show rng 6 by decide) (show rng 2 by decide) (by decide) (ixl ngU1 (by decide)) dX12_init_38 (fun H locs G => ?_)
  obtain ⟨S12, eS12⟩ : ∃ q9 : Me, q9 = sI S11 U1.1 (Int.toNat 6) 2 := ⟨_, rfl⟩
  have h := h S12 eS12
  rw [← eS12] at G
  refine gx_dupR C dX12_init_39 ?_
  refine gx_bipush C dX12_init_40 (by decide) ?_
  refine gx_iconst C dX12_init_42 ?_
  refine gx_iast C G rfl nlU1 ntU1 (show rng 7 by decide) (show rng 5 by decide) (by decide) (ixl ngU1 (by decide)) dX12_init_43 (fun H locs G => ?_)
  obtain ⟨S13, eS13⟩ : ∃ q9 : Me, q9 = sI S12 U1.1 (Int.toNat 7) 5 := ⟨_, rfl⟩
  have h := h S13 eS13
  rw [← eS13] at G
  refine gx_dupR C dX12_init_44 ?_
  refine gx_bipush C dX12_init_45 (by decide) ?_
  refine gx_bipush C dX12_init_47 (by decide) ?_
  refine gx_iast C G rfl nlU1 ntU1 (show rng 8 by decide) (show rng 6 by decide) (by decide) (ixl ngU1 (by decide)) dX12_init_49 (fun H locs G => ?_)
  obtain ⟨S14, eS14⟩ : ∃ q9 : Me, q9 = sI S13 U1.1 (Int.toNat 8) 6 := ⟨_, rfl⟩
  have h := h S14 eS14
  rw [← eS14] at G
  refine gx_dupR C dX12_init_50 ?_
  refine gx_bipush C dX12_init_51 (by decide) ?_
  refine gx_iconst C dX12_init_53 ?_
  refine gx_iast C G rfl nlU1 ntU1 (show rng 9 by decide) (show rng 2 by decide) (by decide) (ixl ngU1 (by decide)) dX12_init_54 (fun H locs G => ?_)
  obtain ⟨S15, eS15⟩ : ∃ q9 : Me, q9 = sI S14 U1.1 (Int.toNat 9) 2 := ⟨_, rfl⟩
  have h := h S15 eS15
  rw [← eS15] at G
  refine gx_dupR C dX12_init_55 ?_
  refine gx_bipush C dX12_init_56 (by decide) ?_
  refine gx_bipush C dX12_init_58 (by decide) ?_
  refine gx_iast C G rfl nlU1 ntU1 (show rng 10 by decide) (show rng 12 by decide) (by decide) (ixl ngU1 (by decide)) dX12_init_60 (fun H locs G => ?_)
  obtain ⟨S16, eS16⟩ : ∃ q9 : Me, q9 = sI S15 U1.1 (Int.toNat 10) 12 := ⟨_, rfl⟩
  have h := h S16 eS16
  rw [← eS16] at G
  refine gx_dupR C dX12_init_61 ?_
  refine gx_bipush C dX12_init_62 (by decide) ?_
  refine gx_bipush C dX12_init_64 (by decide) ?_
  refine gx_iast C G rfl nlU1 ntU1 (show rng 11 by decide) (show rng 10 by decide) (by decide) (ixl ngU1 (by decide)) dX12_init_66 (fun H locs G => ?_)
  obtain ⟨S17, eS17⟩ : ∃ q9 : Me, q9 = sI S16 U1.1 (Int.toNat 11) 10 := ⟨_, rfl⟩
  have h := h S17 eS17
  rw [← eS17] at G
  refine gx_dupR C dX12_init_67 ?_
  refine gx_bipush C dX12_init_68 (by decide) ?_
  refine gx_iconst C dX12_init_70 ?_
  refine gx_iast C G rfl nlU1 ntU1 (show rng 12 by decide) (show rng 3 by decide) (by decide) (ixl ngU1 (by decide)) dX12_init_71 (fun H locs G => ?_)
  obtain ⟨S18, eS18⟩ : ∃ q9 : Me, q9 = sI S17 U1.1 (Int.toNat 12) 3 := ⟨_, rfl⟩
  have h := h S18 eS18
  rw [← eS18] at G
  obtain ⟨U19, rfl⟩ : ∃ q : Vt, q = V := ⟨_, rfl⟩
  have h := h U19 rfl
  refine gx_putF C hmn G rfl l4 (fo11_1 t5) (Or.inr ⟨_, rfl⟩) rfl nlU1 uw_956 dX12_init_72 (fun V H locs eV hex1 G => ?_)
  have h := h V eV
  have v20 := hex1.vl v3
  have l21 := hex1.lt l4
  have t22 := hex1.ty l4 t5
  have hag := hag
  have hex := hex.tr hex1
  refine gx_aload_n C hl dX12_init_75 rfl ?_
  refine gx_iconst C dX12_init_76 ?_
  refine gx_putI C G rfl l21 (fo11_3 t22) (show rng 4 by decide) uw_958 (fun _ h9 => h9) dX12_init_77 (fun H locs G => ?_)
  obtain ⟨S23, eS23⟩ : ∃ q9 : Me, q9 = sI S18 o 3 4 := ⟨_, rfl⟩
  have h := h S23 eS23
  rw [← eS23] at G
  refine gx_aload_n C hl dX12_init_80 rfl ?_
  refine gx_iconst C dX12_init_81 ?_
  refine gx_putI C G rfl l21 (fo11_5 t22) (show rng 4 by decide) uw_960 (fun _ h9 => h9) dX12_init_82 (fun H locs G => ?_)
  obtain ⟨S24, eS24⟩ : ∃ q9 : Me, q9 = sI S23 o 5 4 := ⟨_, rfl⟩
  have h := h S24 eS24
  rw [← eS24] at G
  refine gx_aload_n C hl dX12_init_85 rfl ?_
  refine gx_iconst C dX12_init_86 ?_
  refine gx_putI C G rfl l21 (fo11_6 t22) (show rng 1 by decide) uw_961 (fun _ h9 => h9) dX12_init_87 (fun H locs G => ?_)
  obtain ⟨S25, eS25⟩ : ∃ q9 : Me, q9 = sI S24 o 6 1 := ⟨_, rfl⟩
  have h := h S25 eS25
  rw [← eS25] at G
  refine gx_aload_n C hl dX12_init_90 rfl ?_
  refine gx_iconst C dX12_init_91 ?_
  obtain ⟨U26, rfl⟩ : ∃ q : Vt, q = V := ⟨_, rfl⟩
  have h := h U26 rfl
  refine gx_newa C G hl (okP_S (okv_R v20) okP_0) (show rng 4 by decide) 4 (by decide) (by decide) (Nat.le_of_ble_eq_true rfl) (Nat.le_of_ble_eq_true rfl) (Nat.le_of_ble_eq_true rfl) [.inr (some o)] rfl (okS_S (okv_R v20) okS_0) dX12_init_92 (fun ad V S27 H eV eS hag1 hex1 hl G => ?_)
  have h := h V eV S27 eS
  have hex1 := exT.of hex1
  have nlU26 : U26.1 < V.1 := by rw [eV]; exact Nat.lt_succ_self _
  have ntU26 : V.2.1 U26.1 = 12 := by rw [eV]; simp [nV]
  have v28 := hex1.vl v20
  have l29 := hex1.lt l21
  have t30 := hex1.ty l21 t22
  have hag := fun k hk => (hag1 k (hex.lt hk)).trans (hag k hk)
  have hex := hex.tr hex1
  have ngU26 : V.2.2.1 U26.1 = 4 := by rw [eV]; simp [nV]
  refine gx_dupR C dX12_init_94 ?_
  refine gx_iconst C dX12_init_95 ?_
  refine gx_bipush C dX12_init_96 (by decide) ?_
  refine gx_iast C G rfl nlU26 ntU26 (show rng 0 by decide) (show rng (-2) by decide) (by decide) (ixl ngU26 (by decide)) dX12_init_98 (fun H locs G => ?_)
  obtain ⟨S31, eS31⟩ : ∃ q9 : Me, q9 = sI S27 U26.1 (Int.toNat 0) (-2) := ⟨_, rfl⟩
  have h := h S31 eS31
  rw [← eS31] at G
  refine gx_dupR C dX12_init_99 ?_
  refine gx_iconst C dX12_init_100 ?_
  refine gx_bipush C dX12_init_101 (by decide) ?_
  refine gx_iast C G rfl nlU26 ntU26 (show rng 1 by decide) (show rng (-2) by decide) (by decide) (ixl ngU26 (by decide)) dX12_init_103 (fun H locs G => ?_)
  obtain ⟨S32, eS32⟩ : ∃ q9 : Me, q9 = sI S31 U26.1 (Int.toNat 1) (-2) := ⟨_, rfl⟩
  have h := h S32 eS32
  rw [← eS32] at G
  refine gx_dupR C dX12_init_104 ?_
  refine gx_iconst C dX12_init_105 ?_
  refine gx_bipush C dX12_init_106 (by decide) ?_
  refine gx_iast C G rfl nlU26 ntU26 (show rng 2 by decide) (show rng (-2) by decide) (by decide) (ixl ngU26 (by decide)) dX12_init_108 (fun H locs G => ?_)
  obtain ⟨S33, eS33⟩ : ∃ q9 : Me, q9 = sI S32 U26.1 (Int.toNat 2) (-2) := ⟨_, rfl⟩
  have h := h S33 eS33
  rw [← eS33] at G
  refine gx_dupR C dX12_init_109 ?_
  refine gx_iconst C dX12_init_110 ?_
  refine gx_bipush C dX12_init_111 (by decide) ?_
  refine gx_iast C G rfl nlU26 ntU26 (show rng 3 by decide) (show rng (-2) by decide) (by decide) (ixl ngU26 (by decide)) dX12_init_113 (fun H locs G => ?_)
  obtain ⟨S34, eS34⟩ : ∃ q9 : Me, q9 = sI S33 U26.1 (Int.toNat 3) (-2) := ⟨_, rfl⟩
  have h := h S34 eS34
  rw [← eS34] at G
  obtain ⟨U35, rfl⟩ : ∃ q : Vt, q = V := ⟨_, rfl⟩
  have h := h U35 rfl
  refine gx_putF C hmn G rfl l29 (fo11_11 t30) (Or.inr ⟨_, rfl⟩) rfl nlU26 uw_966 dX12_init_114 (fun V H locs eV hex1 G => ?_)
  have h := h V eV
  have v36 := hex1.vl v28
  have l37 := hex1.lt l29
  have t38 := hex1.ty l29 t30
  have hag := hag
  have hex := hex.tr hex1
  refine gx_aload_n C hl dX12_init_117 rfl ?_
  refine gx_sipush C dX12_init_118 (by decide) ?_
  obtain ⟨U39, rfl⟩ : ∃ q : Vt, q = V := ⟨_, rfl⟩
  have h := h U39 rfl
  refine gx_newa C G hl (okP_S (okv_R v36) okP_0) (show rng 1024 by decide) 1024 (by decide) (by decide) (Nat.le_of_ble_eq_true rfl) (Nat.le_of_ble_eq_true rfl) (Nat.le_of_ble_eq_true rfl) [.inr (some o)] rfl (okS_S (okv_R v36) okS_0) dX12_init_121 (fun ad V S40 H eV eS hag1 hex1 hl G => ?_)
  have h := h V eV S40 eS
  have hex1 := exT.of hex1
  have nlU39 : U39.1 < V.1 := by rw [eV]; exact Nat.lt_succ_self _
  have ntU39 : V.2.1 U39.1 = 12 := by rw [eV]; simp [nV]
  have v41 := hex1.vl v36
  have l42 := hex1.lt l37
  have t43 := hex1.ty l37 t38
  have hag := fun k hk => (hag1 k (hex.lt hk)).trans (hag k hk)
  have hex := hex.tr hex1
  have ngU39 : V.2.2.1 U39.1 = 1024 := by rw [eV]; simp [nV]
  obtain ⟨U44, rfl⟩ : ∃ q : Vt, q = V := ⟨_, rfl⟩
  have h := h U44 rfl
  refine gx_putF C hmn G rfl l42 (fo11_12 t43) (Or.inr ⟨_, rfl⟩) rfl nlU39 uw_967 dX12_init_123 (fun V H locs eV hex1 G => ?_)
  have h := h V eV
  have v45 := hex1.vl v41
  have l46 := hex1.lt l42
  have t47 := hex1.ty l42 t43
  have hag := hag
  have hex := hex.tr hex1
  refine gx_aload_n C hl dX12_init_126 rfl ?_
  refine gx_sipush C dX12_init_127 (by decide) ?_
  obtain ⟨U48, rfl⟩ : ∃ q : Vt, q = V := ⟨_, rfl⟩
  have h := h U48 rfl
  refine gx_newa C G hl (okP_S (okv_R v45) okP_0) (show rng 400 by decide) 400 (by decide) (by decide) (Nat.le_of_ble_eq_true rfl) (Nat.le_of_ble_eq_true rfl) (Nat.le_of_ble_eq_true rfl) [.inr (some o)] rfl (okS_S (okv_R v45) okS_0) dX12_init_130 (fun ad V S49 H eV eS hag1 hex1 hl G => ?_)
  have h := h V eV S49 eS
  have hex1 := exT.of hex1
  have nlU48 : U48.1 < V.1 := by rw [eV]; exact Nat.lt_succ_self _
  have ntU48 : V.2.1 U48.1 = 12 := by rw [eV]; simp [nV]
  have v50 := hex1.vl v45
  have l51 := hex1.lt l46
  have t52 := hex1.ty l46 t47
  have hag := fun k hk => (hag1 k (hex.lt hk)).trans (hag k hk)
  have hex := hex.tr hex1
  have ngU48 : V.2.2.1 U48.1 = 400 := by rw [eV]; simp [nV]
  obtain ⟨U53, rfl⟩ : ∃ q : Vt, q = V := ⟨_, rfl⟩
  have h := h U53 rfl
  refine gx_putF C hmn G rfl l51 (fo11_15 t52) (Or.inr ⟨_, rfl⟩) rfl nlU48 uw_970 dX12_init_132 (fun V H locs eV hex1 G => ?_)
  have h := h V eV
  have v54 := hex1.vl v50
  have l55 := hex1.lt l51
  have t56 := hex1.ty l51 t52
  have hag := hag
  have hex := hex.tr hex1
  refine gx_aload_n C hl dX12_init_135 rfl ?_
  refine gx_sipush C dX12_init_136 (by decide) ?_
  obtain ⟨U57, rfl⟩ : ∃ q : Vt, q = V := ⟨_, rfl⟩
  have h := h U57 rfl
  refine gx_newa C G hl (okP_S (okv_R v54) okP_0) (show rng 400 by decide) 400 (by decide) (by decide) (Nat.le_of_ble_eq_true rfl) (Nat.le_of_ble_eq_true rfl) (Nat.le_of_ble_eq_true rfl) [.inr (some o)] rfl (okS_S (okv_R v54) okS_0) dX12_init_139 (fun ad V S58 H eV eS hag1 hex1 hl G => ?_)
  have h := h V eV S58 eS
  have hex1 := exT.of hex1
  have nlU57 : U57.1 < V.1 := by rw [eV]; exact Nat.lt_succ_self _
  have ntU57 : V.2.1 U57.1 = 12 := by rw [eV]; simp [nV]
  have v59 := hex1.vl v54
  have l60 := hex1.lt l55
  have t61 := hex1.ty l55 t56
  have hag := fun k hk => (hag1 k (hex.lt hk)).trans (hag k hk)
  have hex := hex.tr hex1
  have ngU57 : V.2.2.1 U57.1 = 400 := by rw [eV]; simp [nV]
  obtain ⟨U62, rfl⟩ : ∃ q : Vt, q = V := ⟨_, rfl⟩
  have h := h U62 rfl
  refine gx_putF C hmn G rfl l60 (fo11_16 t61) (Or.inr ⟨_, rfl⟩) rfl nlU57 uw_971 dX12_init_141 (fun V H locs eV hex1 G => ?_)
  have h := h V eV
  have v63 := hex1.vl v59
  have l64 := hex1.lt l60
  have t65 := hex1.ty l60 t61
  have hag := hag
  have hex := hex.tr hex1
  refine gx_aload_n C hl dX12_init_144 rfl ?_
  refine gx_sipush C dX12_init_145 (by decide) ?_
  obtain ⟨U66, rfl⟩ : ∃ q : Vt, q = V := ⟨_, rfl⟩
  have h := h U66 rfl
  refine gx_newa C G hl (okP_S (okv_R v63) okP_0) (show rng 400 by decide) 400 (by decide) (by decide) (Nat.le_of_ble_eq_true rfl) (Nat.le_of_ble_eq_true rfl) (Nat.le_of_ble_eq_true rfl) [.inr (some o)] rfl (okS_S (okv_R v63) okS_0) dX12_init_148 (fun ad V S67 H eV eS hag1 hex1 hl G => ?_)
  have h := h V eV S67 eS
  have hex1 := exT.of hex1
  have nlU66 : U66.1 < V.1 := by rw [eV]; exact Nat.lt_succ_self _
  have ntU66 : V.2.1 U66.1 = 12 := by rw [eV]; simp [nV]
  have v68 := hex1.vl v63
  have l69 := hex1.lt l64
  have t70 := hex1.ty l64 t65
  have hag := fun k hk => (hag1 k (hex.lt hk)).trans (hag k hk)
  have hex := hex.tr hex1
  have ngU66 : V.2.2.1 U66.1 = 400 := by rw [eV]; simp [nV]
  obtain ⟨U71, rfl⟩ : ∃ q : Vt, q = V := ⟨_, rfl⟩
  have h := h U71 rfl
  refine gx_putF C hmn G rfl l69 (fo11_17 t70) (Or.inr ⟨_, rfl⟩) rfl nlU66 uw_972 dX12_init_150 (fun V H locs eV hex1 G => ?_)
  have h := h V eV
  have v72 := hex1.vl v68
  have l73 := hex1.lt l69
  have t74 := hex1.ty l69 t70
  have hag := hag
  have hex := hex.tr hex1
  refine gx_aload_n C hl dX12_init_153 rfl ?_
  refine gx_sipush C dX12_init_154 (by decide) ?_
  obtain ⟨U75, rfl⟩ : ∃ q : Vt, q = V := ⟨_, rfl⟩
  have h := h U75 rfl
  refine gx_newa C G hl (okP_S (okv_R v72) okP_0) (show rng 400 by decide) 400 (by decide) (by decide) (Nat.le_of_ble_eq_true rfl) (Nat.le_of_ble_eq_true rfl) (Nat.le_of_ble_eq_true rfl) [.inr (some o)] rfl (okS_S (okv_R v72) okS_0) dX12_init_157 (fun ad V S76 H eV eS hag1 hex1 hl G => ?_)
  have h := h V eV S76 eS
  have hex1 := exT.of hex1
  have nlU75 : U75.1 < V.1 := by rw [eV]; exact Nat.lt_succ_self _
  have ntU75 : V.2.1 U75.1 = 12 := by rw [eV]; simp [nV]
  have v77 := hex1.vl v72
  have l78 := hex1.lt l73
  have t79 := hex1.ty l73 t74
  have hag := fun k hk => (hag1 k (hex.lt hk)).trans (hag k hk)
  have hex := hex.tr hex1
  have ngU75 : V.2.2.1 U75.1 = 400 := by rw [eV]; simp [nV]
  obtain ⟨U80, rfl⟩ : ∃ q : Vt, q = V := ⟨_, rfl⟩
  have h := h U80 rfl
  refine gx_putF C hmn G rfl l78 (fo11_18 t79) (Or.inr ⟨_, rfl⟩) rfl nlU75 uw_973 dX12_init_159 (fun V H locs eV hex1 G => ?_)
  have h := h V eV
  have v81 := hex1.vl v77
  have l82 := hex1.lt l78
  have t83 := hex1.ty l78 t79
  have hag := hag
  have hex := hex.tr hex1
  refine gx_aload_n C hl dX12_init_162 rfl ?_
  refine gx_sipush C dX12_init_163 (by decide) ?_
  obtain ⟨U84, rfl⟩ : ∃ q : Vt, q = V := ⟨_, rfl⟩
  have h := h U84 rfl
  refine gx_newa C G hl (okP_S (okv_R v81) okP_0) (show rng 400 by decide) 400 (by decide) (by decide) (Nat.le_of_ble_eq_true rfl) (Nat.le_of_ble_eq_true rfl) (Nat.le_of_ble_eq_true rfl) [.inr (some o)] rfl (okS_S (okv_R v81) okS_0) dX12_init_166 (fun ad V S85 H eV eS hag1 hex1 hl G => ?_)
  have h := h V eV S85 eS
  have hex1 := exT.of hex1
  have nlU84 : U84.1 < V.1 := by rw [eV]; exact Nat.lt_succ_self _
  have ntU84 : V.2.1 U84.1 = 12 := by rw [eV]; simp [nV]
  have v86 := hex1.vl v81
  have l87 := hex1.lt l82
  have t88 := hex1.ty l82 t83
  have hag := fun k hk => (hag1 k (hex.lt hk)).trans (hag k hk)
  have hex := hex.tr hex1
  have ngU84 : V.2.2.1 U84.1 = 400 := by rw [eV]; simp [nV]
  obtain ⟨U89, rfl⟩ : ∃ q : Vt, q = V := ⟨_, rfl⟩
  have h := h U89 rfl
  refine gx_putF C hmn G rfl l87 (fo11_19 t88) (Or.inr ⟨_, rfl⟩) rfl nlU84 uw_974 dX12_init_168 (fun V H locs eV hex1 G => ?_)
  have h := h V eV
  have v90 := hex1.vl v86
  have l91 := hex1.lt l87
  have t92 := hex1.ty l87 t88
  have hag := hag
  have hex := hex.tr hex1
  refine gx_aload_n C hl dX12_init_171 rfl ?_
  refine gx_sipush C dX12_init_172 (by decide) ?_
  obtain ⟨U93, rfl⟩ : ∃ q : Vt, q = V := ⟨_, rfl⟩
  have h := h U93 rfl
  refine gx_newa C G hl (okP_S (okv_R v90) okP_0) (show rng 400 by decide) 400 (by decide) (by decide) (Nat.le_of_ble_eq_true rfl) (Nat.le_of_ble_eq_true rfl) (Nat.le_of_ble_eq_true rfl) [.inr (some o)] rfl (okS_S (okv_R v90) okS_0) dX12_init_175 (fun ad V S94 H eV eS hag1 hex1 hl G => ?_)
  have h := h V eV S94 eS
  have hex1 := exT.of hex1
  have nlU93 : U93.1 < V.1 := by rw [eV]; exact Nat.lt_succ_self _
  have ntU93 : V.2.1 U93.1 = 12 := by rw [eV]; simp [nV]
  have v95 := hex1.vl v90
  have l96 := hex1.lt l91
  have t97 := hex1.ty l91 t92
  have hag := fun k hk => (hag1 k (hex.lt hk)).trans (hag k hk)
  have hex := hex.tr hex1
  have ngU93 : V.2.2.1 U93.1 = 400 := by rw [eV]; simp [nV]
  obtain ⟨U98, rfl⟩ : ∃ q : Vt, q = V := ⟨_, rfl⟩
  have h := h U98 rfl
  refine gx_putF C hmn G rfl l96 (fo11_20 t97) (Or.inr ⟨_, rfl⟩) rfl nlU93 uw_975 dX12_init_177 (fun V H locs eV hex1 G => ?_)
  have h := h V eV
  have v99 := hex1.vl v95
  have l100 := hex1.lt l96
  have t101 := hex1.ty l96 t97
  have hag := hag
  have hex := hex.tr hex1
  refine gx_aload_n C hl dX12_init_180 rfl ?_
  refine gx_sipush C dX12_init_181 (by decide) ?_
  obtain ⟨U102, rfl⟩ : ∃ q : Vt, q = V := ⟨_, rfl⟩
  have h := h U102 rfl
  refine gx_newa C G hl (okP_S (okv_R v99) okP_0) (show rng 400 by decide) 400 (by decide) (by decide) (Nat.le_of_ble_eq_true rfl) (Nat.le_of_ble_eq_true rfl) (Nat.le_of_ble_eq_true rfl) [.inr (some o)] rfl (okS_S (okv_R v99) okS_0) dX12_init_184 (fun ad V S103 H eV eS hag1 hex1 hl G => ?_)
  have h := h V eV S103 eS
  have hex1 := exT.of hex1
  have nlU102 : U102.1 < V.1 := by rw [eV]; exact Nat.lt_succ_self _
  have ntU102 : V.2.1 U102.1 = 12 := by rw [eV]; simp [nV]
  have v104 := hex1.vl v99
  have l105 := hex1.lt l100
  have t106 := hex1.ty l100 t101
  have hag := fun k hk => (hag1 k (hex.lt hk)).trans (hag k hk)
  have hex := hex.tr hex1
  have ngU102 : V.2.2.1 U102.1 = 400 := by rw [eV]; simp [nV]
  obtain ⟨U107, rfl⟩ : ∃ q : Vt, q = V := ⟨_, rfl⟩
  have h := h U107 rfl
  refine gx_putF C hmn G rfl l105 (fo11_21 t106) (Or.inr ⟨_, rfl⟩) rfl nlU102 uw_976 dX12_init_186 (fun V H locs eV hex1 G => ?_)
  have h := h V eV
  have v108 := hex1.vl v104
  have l109 := hex1.lt l105
  have t110 := hex1.ty l105 t106
  have hag := hag
  have hex := hex.tr hex1
  refine gx_aload_n C hl dX12_init_189 rfl ?_
  refine gx_sipush C dX12_init_190 (by decide) ?_
  obtain ⟨U111, rfl⟩ : ∃ q : Vt, q = V := ⟨_, rfl⟩
  have h := h U111 rfl
  refine gx_newa C G hl (okP_S (okv_R v108) okP_0) (show rng 400 by decide) 400 (by decide) (by decide) (Nat.le_of_ble_eq_true rfl) (Nat.le_of_ble_eq_true rfl) (Nat.le_of_ble_eq_true rfl) [.inr (some o)] rfl (okS_S (okv_R v108) okS_0) dX12_init_193 (fun ad V S112 H eV eS hag1 hex1 hl G => ?_)
  have h := h V eV S112 eS
  have hex1 := exT.of hex1
  have nlU111 : U111.1 < V.1 := by rw [eV]; exact Nat.lt_succ_self _
  have ntU111 : V.2.1 U111.1 = 12 := by rw [eV]; simp [nV]
  have v113 := hex1.vl v108
  have l114 := hex1.lt l109
  have t115 := hex1.ty l109 t110
  have hag := fun k hk => (hag1 k (hex.lt hk)).trans (hag k hk)
  have hex := hex.tr hex1
  have ngU111 : V.2.2.1 U111.1 = 400 := by rw [eV]; simp [nV]
  obtain ⟨U116, rfl⟩ : ∃ q : Vt, q = V := ⟨_, rfl⟩
  have h := h U116 rfl
  refine gx_putF C hmn G rfl l114 (fo11_22 t115) (Or.inr ⟨_, rfl⟩) rfl nlU111 uw_977 dX12_init_195 (fun V H locs eV hex1 G => ?_)
  have h := h V eV
  have v117 := hex1.vl v113
  have l118 := hex1.lt l114
  have t119 := hex1.ty l114 t115
  have hag := hag
  have hex := hex.tr hex1
  refine gx_aload_n C hl dX12_init_198 rfl ?_
  refine gx_iconst C dX12_init_199 ?_
  obtain ⟨U120, rfl⟩ : ∃ q : Vt, q = V := ⟨_, rfl⟩
  have h := h U120 rfl
  refine gx_newa C G hl (okP_S (okv_R v117) okP_0) (show rng 4 by decide) 4 (by decide) (by decide) (Nat.le_of_ble_eq_true rfl) (Nat.le_of_ble_eq_true rfl) (Nat.le_of_ble_eq_true rfl) [.inr (some o)] rfl (okS_S (okv_R v117) okS_0) dX12_init_200 (fun ad V S121 H eV eS hag1 hex1 hl G => ?_)
  have h := h V eV S121 eS
  have hex1 := exT.of hex1
  have nlU120 : U120.1 < V.1 := by rw [eV]; exact Nat.lt_succ_self _
  have ntU120 : V.2.1 U120.1 = 12 := by rw [eV]; simp [nV]
  have v122 := hex1.vl v117
  have l123 := hex1.lt l118
  have t124 := hex1.ty l118 t119
  have hag := fun k hk => (hag1 k (hex.lt hk)).trans (hag k hk)
  have hex := hex.tr hex1
  have ngU120 : V.2.2.1 U120.1 = 4 := by rw [eV]; simp [nV]
  obtain ⟨U125, rfl⟩ : ∃ q : Vt, q = V := ⟨_, rfl⟩
  have h := h U125 rfl
  refine gx_putF C hmn G rfl l123 (fo11_23 t124) (Or.inr ⟨_, rfl⟩) rfl nlU120 uw_978 dX12_init_202 (fun V H locs eV hex1 G => ?_)
  have h := h V eV
  have v126 := hex1.vl v122
  have l127 := hex1.lt l123
  have t128 := hex1.ty l123 t124
  have hag := hag
  have hex := hex.tr hex1
  refine gx_aload_n C hl dX12_init_205 rfl ?_
  refine gx_iconst C dX12_init_206 ?_
  refine gx_putI C G rfl l127 (fo11_24 t128) (show rng (-1) by decide) uw_979 (fun _ h9 => h9) dX12_init_207 (fun H locs G => ?_)
  obtain ⟨S129, eS129⟩ : ∃ q9 : Me, q9 = sI S121 o 24 (-1) := ⟨_, rfl⟩
  have h := h S129 eS129
  rw [← eS129] at G
  refine gx_aload_n C hl dX12_init_210 rfl ?_
  refine gx_bipush C dX12_init_211 (by decide) ?_
  obtain ⟨U130, rfl⟩ : ∃ q : Vt, q = V := ⟨_, rfl⟩
  have h := h U130 rfl
  refine gx_newa C G hl (okP_S (okv_R v126) okP_0) (show rng 40 by decide) 40 (by decide) (by decide) (Nat.le_of_ble_eq_true rfl) (Nat.le_of_ble_eq_true rfl) (Nat.le_of_ble_eq_true rfl) [.inr (some o)] rfl (okS_S (okv_R v126) okS_0) dX12_init_213 (fun ad V S131 H eV eS hag1 hex1 hl G => ?_)
  have h := h V eV S131 eS
  have hex1 := exT.of hex1
  have nlU130 : U130.1 < V.1 := by rw [eV]; exact Nat.lt_succ_self _
  have ntU130 : V.2.1 U130.1 = 12 := by rw [eV]; simp [nV]
  have v132 := hex1.vl v126
  have l133 := hex1.lt l127
  have t134 := hex1.ty l127 t128
  have hag := fun k hk => (hag1 k (hex.lt hk)).trans (hag k hk)
  have hex := hex.tr hex1
  have ngU130 : V.2.2.1 U130.1 = 40 := by rw [eV]; simp [nV]
  obtain ⟨U135, rfl⟩ : ∃ q : Vt, q = V := ⟨_, rfl⟩
  have h := h U135 rfl
  refine gx_putF C hmn G rfl l133 (fo11_27 t134) (Or.inr ⟨_, rfl⟩) rfl nlU130 uw_982 dX12_init_215 (fun V H locs eV hex1 G => ?_)
  have h := h V eV
  have v136 := hex1.vl v132
  have l137 := hex1.lt l133
  have t138 := hex1.ty l133 t134
  have hag := hag
  have hex := hex.tr hex1
  refine gx_aload_n C hl dX12_init_218 rfl ?_
  refine gx_bipush C dX12_init_219 (by decide) ?_
  obtain ⟨U139, rfl⟩ : ∃ q : Vt, q = V := ⟨_, rfl⟩
  have h := h U139 rfl
  refine gx_newa C G hl (okP_S (okv_R v136) okP_0) (show rng 40 by decide) 40 (by decide) (by decide) (Nat.le_of_ble_eq_true rfl) (Nat.le_of_ble_eq_true rfl) (Nat.le_of_ble_eq_true rfl) [.inr (some o)] rfl (okS_S (okv_R v136) okS_0) dX12_init_221 (fun ad V S140 H eV eS hag1 hex1 hl G => ?_)
  have h := h V eV S140 eS
  have hex1 := exT.of hex1
  have nlU139 : U139.1 < V.1 := by rw [eV]; exact Nat.lt_succ_self _
  have ntU139 : V.2.1 U139.1 = 12 := by rw [eV]; simp [nV]
  have v141 := hex1.vl v136
  have l142 := hex1.lt l137
  have t143 := hex1.ty l137 t138
  have hag := fun k hk => (hag1 k (hex.lt hk)).trans (hag k hk)
  have hex := hex.tr hex1
  have ngU139 : V.2.2.1 U139.1 = 40 := by rw [eV]; simp [nV]
  obtain ⟨U144, rfl⟩ : ∃ q : Vt, q = V := ⟨_, rfl⟩
  have h := h U144 rfl
  refine gx_putF C hmn G rfl l142 (fo11_28 t143) (Or.inr ⟨_, rfl⟩) rfl nlU139 uw_983 dX12_init_223 (fun V H locs eV hex1 G => ?_)
  have h := h V eV
  have v145 := hex1.vl v141
  have l146 := hex1.lt l142
  have t147 := hex1.ty l142 t143
  have hag := hag
  have hex := hex.tr hex1
  refine gx_aload_n C hl dX12_init_226 rfl ?_
  refine gx_bipush C dX12_init_227 (by decide) ?_
  obtain ⟨U148, rfl⟩ : ∃ q : Vt, q = V := ⟨_, rfl⟩
  have h := h U148 rfl
  refine gx_newa C G hl (okP_S (okv_R v145) okP_0) (show rng 40 by decide) 40 (by decide) (by decide) (Nat.le_of_ble_eq_true rfl) (Nat.le_of_ble_eq_true rfl) (Nat.le_of_ble_eq_true rfl) [.inr (some o)] rfl (okS_S (okv_R v145) okS_0) dX12_init_229 (fun ad V S149 H eV eS hag1 hex1 hl G => ?_)
  have h := h V eV S149 eS
  have hex1 := exT.of hex1
  have nlU148 : U148.1 < V.1 := by rw [eV]; exact Nat.lt_succ_self _
  have ntU148 : V.2.1 U148.1 = 12 := by rw [eV]; simp [nV]
  have v150 := hex1.vl v145
  have l151 := hex1.lt l146
  have t152 := hex1.ty l146 t147
  have hag := fun k hk => (hag1 k (hex.lt hk)).trans (hag k hk)
  have hex := hex.tr hex1
  have ngU148 : V.2.2.1 U148.1 = 40 := by rw [eV]; simp [nV]
  obtain ⟨U153, rfl⟩ : ∃ q : Vt, q = V := ⟨_, rfl⟩
  have h := h U153 rfl
  refine gx_putF C hmn G rfl l151 (fo11_29 t152) (Or.inr ⟨_, rfl⟩) rfl nlU148 uw_984 dX12_init_231 (fun V H locs eV hex1 G => ?_)
  have h := h V eV
  have v154 := hex1.vl v150
  have l155 := hex1.lt l151
  have t156 := hex1.ty l151 t152
  have hag := hag
  have hex := hex.tr hex1
  refine gx_aload_n C hl dX12_init_234 rfl ?_
  refine gx_sipush C dX12_init_235 (by decide) ?_
  obtain ⟨U157, rfl⟩ : ∃ q : Vt, q = V := ⟨_, rfl⟩
  have h := h U157 rfl
  refine gx_newa C G hl (okP_S (okv_R v154) okP_0) (show rng 400 by decide) 400 (by decide) (by decide) (Nat.le_of_ble_eq_true rfl) (Nat.le_of_ble_eq_true rfl) (Nat.le_of_ble_eq_true rfl) [.inr (some o)] rfl (okS_S (okv_R v154) okS_0) dX12_init_238 (fun ad V S158 H eV eS hag1 hex1 hl G => ?_)
  have h := h V eV S158 eS
  have hex1 := exT.of hex1
  have nlU157 : U157.1 < V.1 := by rw [eV]; exact Nat.lt_succ_self _
  have ntU157 : V.2.1 U157.1 = 12 := by rw [eV]; simp [nV]
  have v159 := hex1.vl v154
  have l160 := hex1.lt l155
  have t161 := hex1.ty l155 t156
  have hag := fun k hk => (hag1 k (hex.lt hk)).trans (hag k hk)
  have hex := hex.tr hex1
  have ngU157 : V.2.2.1 U157.1 = 400 := by rw [eV]; simp [nV]
  obtain ⟨U162, rfl⟩ : ∃ q : Vt, q = V := ⟨_, rfl⟩
  have h := h U162 rfl
  refine gx_putF C hmn G rfl l160 (fo11_31 t161) (Or.inr ⟨_, rfl⟩) rfl nlU157 uw_986 dX12_init_240 (fun V H locs eV hex1 G => ?_)
  have h := h V eV
  have v163 := hex1.vl v159
  have l164 := hex1.lt l160
  have t165 := hex1.ty l160 t161
  have hag := hag
  have hex := hex.tr hex1
  refine gx_aload_n C hl dX12_init_243 rfl ?_
  refine gx_sipush C dX12_init_244 (by decide) ?_
  obtain ⟨U166, rfl⟩ : ∃ q : Vt, q = V := ⟨_, rfl⟩
  have h := h U166 rfl
  refine gx_newa C G hl (okP_S (okv_R v163) okP_0) (show rng 400 by decide) 400 (by decide) (by decide) (Nat.le_of_ble_eq_true rfl) (Nat.le_of_ble_eq_true rfl) (Nat.le_of_ble_eq_true rfl) [.inr (some o)] rfl (okS_S (okv_R v163) okS_0) dX12_init_247 (fun ad V S167 H eV eS hag1 hex1 hl G => ?_)
  have h := h V eV S167 eS
  have hex1 := exT.of hex1
  have nlU166 : U166.1 < V.1 := by rw [eV]; exact Nat.lt_succ_self _
  have ntU166 : V.2.1 U166.1 = 12 := by rw [eV]; simp [nV]
  have v168 := hex1.vl v163
  have l169 := hex1.lt l164
  have t170 := hex1.ty l164 t165
  have hag := fun k hk => (hag1 k (hex.lt hk)).trans (hag k hk)
  have hex := hex.tr hex1
  have ngU166 : V.2.2.1 U166.1 = 400 := by rw [eV]; simp [nV]
  obtain ⟨U171, rfl⟩ : ∃ q : Vt, q = V := ⟨_, rfl⟩
  have h := h U171 rfl
  refine gx_putF C hmn G rfl l169 (fo11_32 t170) (Or.inr ⟨_, rfl⟩) rfl nlU166 uw_987 dX12_init_249 (fun V H locs eV hex1 G => ?_)
  have h := h V eV
  have v172 := hex1.vl v168
  have l173 := hex1.lt l169
  have t174 := hex1.ty l169 t170
  have hag := hag
  have hex := hex.tr hex1
  refine gx_aload_n C hl dX12_init_252 rfl ?_
  refine gx_sipush C dX12_init_253 (by decide) ?_
  obtain ⟨U175, rfl⟩ : ∃ q : Vt, q = V := ⟨_, rfl⟩
  have h := h U175 rfl
  refine gx_newa C G hl (okP_S (okv_R v172) okP_0) (show rng 400 by decide) 400 (by decide) (by decide) (Nat.le_of_ble_eq_true rfl) (Nat.le_of_ble_eq_true rfl) (Nat.le_of_ble_eq_true rfl) [.inr (some o)] rfl (okS_S (okv_R v172) okS_0) dX12_init_256 (fun ad V S176 H eV eS hag1 hex1 hl G => ?_)
  have h := h V eV S176 eS
  have hex1 := exT.of hex1
  have nlU175 : U175.1 < V.1 := by rw [eV]; exact Nat.lt_succ_self _
  have ntU175 : V.2.1 U175.1 = 12 := by rw [eV]; simp [nV]
  have v177 := hex1.vl v172
  have l178 := hex1.lt l173
  have t179 := hex1.ty l173 t174
  have hag := fun k hk => (hag1 k (hex.lt hk)).trans (hag k hk)
  have hex := hex.tr hex1
  have ngU175 : V.2.2.1 U175.1 = 400 := by rw [eV]; simp [nV]
  obtain ⟨U180, rfl⟩ : ∃ q : Vt, q = V := ⟨_, rfl⟩
  have h := h U180 rfl
  refine gx_putF C hmn G rfl l178 (fo11_33 t179) (Or.inr ⟨_, rfl⟩) rfl nlU175 uw_988 dX12_init_258 (fun V H locs eV hex1 G => ?_)
  have h := h V eV
  have v181 := hex1.vl v177
  have l182 := hex1.lt l178
  have t183 := hex1.ty l178 t179
  have hag := hag
  have hex := hex.tr hex1
  refine gx_aload_n C hl dX12_init_261 rfl ?_
  refine gx_sipush C dX12_init_262 (by decide) ?_
  obtain ⟨U184, rfl⟩ : ∃ q : Vt, q = V := ⟨_, rfl⟩
  have h := h U184 rfl
  refine gx_newa C G hl (okP_S (okv_R v181) okP_0) (show rng 400 by decide) 400 (by decide) (by decide) (Nat.le_of_ble_eq_true rfl) (Nat.le_of_ble_eq_true rfl) (Nat.le_of_ble_eq_true rfl) [.inr (some o)] rfl (okS_S (okv_R v181) okS_0) dX12_init_265 (fun ad V S185 H eV eS hag1 hex1 hl G => ?_)
  have h := h V eV S185 eS
  have hex1 := exT.of hex1
  have nlU184 : U184.1 < V.1 := by rw [eV]; exact Nat.lt_succ_self _
  have ntU184 : V.2.1 U184.1 = 12 := by rw [eV]; simp [nV]
  have v186 := hex1.vl v181
  have l187 := hex1.lt l182
  have t188 := hex1.ty l182 t183
  have hag := fun k hk => (hag1 k (hex.lt hk)).trans (hag k hk)
  have hex := hex.tr hex1
  have ngU184 : V.2.2.1 U184.1 = 400 := by rw [eV]; simp [nV]
  obtain ⟨U189, rfl⟩ : ∃ q : Vt, q = V := ⟨_, rfl⟩
  have h := h U189 rfl
  refine gx_putF C hmn G rfl l187 (fo11_34 t188) (Or.inr ⟨_, rfl⟩) rfl nlU184 uw_989 dX12_init_267 (fun V H locs eV hex1 G => ?_)
  have h := h V eV
  have v190 := hex1.vl v186
  have l191 := hex1.lt l187
  have t192 := hex1.ty l187 t188
  have hag := hag
  have hex := hex.tr hex1
  refine gx_aload_n C hl dX12_init_270 rfl ?_
  refine gx_sipush C dX12_init_271 (by decide) ?_
  obtain ⟨U193, rfl⟩ : ∃ q : Vt, q = V := ⟨_, rfl⟩
  have h := h U193 rfl
  refine gx_newa C G hl (okP_S (okv_R v190) okP_0) (show rng 400 by decide) 400 (by decide) (by decide) (Nat.le_of_ble_eq_true rfl) (Nat.le_of_ble_eq_true rfl) (Nat.le_of_ble_eq_true rfl) [.inr (some o)] rfl (okS_S (okv_R v190) okS_0) dX12_init_274 (fun ad V S194 H eV eS hag1 hex1 hl G => ?_)
  have h := h V eV S194 eS
  have hex1 := exT.of hex1
  have nlU193 : U193.1 < V.1 := by rw [eV]; exact Nat.lt_succ_self _
  have ntU193 : V.2.1 U193.1 = 12 := by rw [eV]; simp [nV]
  have v195 := hex1.vl v190
  have l196 := hex1.lt l191
  have t197 := hex1.ty l191 t192
  have hag := fun k hk => (hag1 k (hex.lt hk)).trans (hag k hk)
  have hex := hex.tr hex1
  have ngU193 : V.2.2.1 U193.1 = 400 := by rw [eV]; simp [nV]
  obtain ⟨U198, rfl⟩ : ∃ q : Vt, q = V := ⟨_, rfl⟩
  have h := h U198 rfl
  refine gx_putF C hmn G rfl l196 (fo11_35 t197) (Or.inr ⟨_, rfl⟩) rfl nlU193 uw_990 dX12_init_276 (fun V H locs eV hex1 G => ?_)
  have h := h V eV
  have v199 := hex1.vl v195
  have l200 := hex1.lt l196
  have t201 := hex1.ty l196 t197
  have hag := hag
  have hex := hex.tr hex1
  refine gx_aload_n C hl dX12_init_279 rfl ?_
  refine gx_sipush C dX12_init_280 (by decide) ?_
  obtain ⟨U202, rfl⟩ : ∃ q : Vt, q = V := ⟨_, rfl⟩
  have h := h U202 rfl
  refine gx_newa C G hl (okP_S (okv_R v199) okP_0) (show rng 400 by decide) 400 (by decide) (by decide) (Nat.le_of_ble_eq_true rfl) (Nat.le_of_ble_eq_true rfl) (Nat.le_of_ble_eq_true rfl) [.inr (some o)] rfl (okS_S (okv_R v199) okS_0) dX12_init_283 (fun ad V S203 H eV eS hag1 hex1 hl G => ?_)
  have h := h V eV S203 eS
  have hex1 := exT.of hex1
  have nlU202 : U202.1 < V.1 := by rw [eV]; exact Nat.lt_succ_self _
  have ntU202 : V.2.1 U202.1 = 12 := by rw [eV]; simp [nV]
  have v204 := hex1.vl v199
  have l205 := hex1.lt l200
  have t206 := hex1.ty l200 t201
  have hag := fun k hk => (hag1 k (hex.lt hk)).trans (hag k hk)
  have hex := hex.tr hex1
  have ngU202 : V.2.2.1 U202.1 = 400 := by rw [eV]; simp [nV]
  obtain ⟨U207, rfl⟩ : ∃ q : Vt, q = V := ⟨_, rfl⟩
  have h := h U207 rfl
  refine gx_putF C hmn G rfl l205 (fo11_36 t206) (Or.inr ⟨_, rfl⟩) rfl nlU202 uw_991 dX12_init_285 (fun V H locs eV hex1 G => ?_)
  have h := h V eV
  have v208 := hex1.vl v204
  have l209 := hex1.lt l205
  have t210 := hex1.ty l205 t206
  have hag := hag
  have hex := hex.tr hex1
  refine gx_aload_n C hl dX12_init_288 rfl ?_
  refine gx_bipush C dX12_init_289 (by decide) ?_
  refine gx_putI C G rfl l209 (fo11_37 t210) (show rng (-2) by decide) uw_992 (fun _ h9 => h9) dX12_init_291 (fun H locs G => ?_)
  obtain ⟨S211, eS211⟩ : ∃ q9 : Me, q9 = sI S203 o 37 (-2) := ⟨_, rfl⟩
  have h := h S211 eS211
  rw [← eS211] at G
  refine gx_aload_n C hl dX12_init_294 rfl ?_
  refine gx_bipush C dX12_init_295 (by decide) ?_
  obtain ⟨U212, rfl⟩ : ∃ q : Vt, q = V := ⟨_, rfl⟩
  have h := h U212 rfl
  refine gx_newa C G hl (okP_S (okv_R v208) okP_0) (show rng 12 by decide) 12 (by decide) (by decide) (Nat.le_of_ble_eq_true rfl) (Nat.le_of_ble_eq_true rfl) (Nat.le_of_ble_eq_true rfl) [.inr (some o)] rfl (okS_S (okv_R v208) okS_0) dX12_init_297 (fun ad V S213 H eV eS hag1 hex1 hl G => ?_)
  have h := h V eV S213 eS
  have hex1 := exT.of hex1
  have nlU212 : U212.1 < V.1 := by rw [eV]; exact Nat.lt_succ_self _
  have ntU212 : V.2.1 U212.1 = 12 := by rw [eV]; simp [nV]
  have v214 := hex1.vl v208
  have l215 := hex1.lt l209
  have t216 := hex1.ty l209 t210
  have hag := fun k hk => (hag1 k (hex.lt hk)).trans (hag k hk)
  have hex := hex.tr hex1
  have ngU212 : V.2.2.1 U212.1 = 12 := by rw [eV]; simp [nV]
  obtain ⟨U217, rfl⟩ : ∃ q : Vt, q = V := ⟨_, rfl⟩
  have h := h U217 rfl
  refine gx_putF C hmn G rfl l215 (fo11_38 t216) (Or.inr ⟨_, rfl⟩) rfl nlU212 uw_993 dX12_init_299 (fun V H locs eV hex1 G => ?_)
  have h := h V eV
  have v218 := hex1.vl v214
  have l219 := hex1.lt l215
  have t220 := hex1.ty l215 t216
  have hag := hag
  have hex := hex.tr hex1
  refine gx_aload_n C hl dX12_init_302 rfl ?_
  refine gx_sipush C dX12_init_303 (by decide) ?_
  obtain ⟨U221, rfl⟩ : ∃ q : Vt, q = V := ⟨_, rfl⟩
  have h := h U221 rfl
  refine gx_newa C G hl (okP_S (okv_R v218) okP_0) (show rng 400 by decide) 400 (by decide) (by decide) (Nat.le_of_ble_eq_true rfl) (Nat.le_of_ble_eq_true rfl) (Nat.le_of_ble_eq_true rfl) [.inr (some o)] rfl (okS_S (okv_R v218) okS_0) dX12_init_306 (fun ad V S222 H eV eS hag1 hex1 hl G => ?_)
  have h := h V eV S222 eS
  have hex1 := exT.of hex1
  have nlU221 : U221.1 < V.1 := by rw [eV]; exact Nat.lt_succ_self _
  have ntU221 : V.2.1 U221.1 = 12 := by rw [eV]; simp [nV]
  have v223 := hex1.vl v218
  have l224 := hex1.lt l219
  have t225 := hex1.ty l219 t220
  have hag := fun k hk => (hag1 k (hex.lt hk)).trans (hag k hk)
  have hex := hex.tr hex1
  have ngU221 : V.2.2.1 U221.1 = 400 := by rw [eV]; simp [nV]
  obtain ⟨U226, rfl⟩ : ∃ q : Vt, q = V := ⟨_, rfl⟩
  have h := h U226 rfl
  refine gx_putF C hmn G rfl l224 (fo11_43 t225) (Or.inr ⟨_, rfl⟩) rfl nlU221 uw_998 dX12_init_308 (fun V H locs eV hex1 G => ?_)
  have h := h V eV
  have v227 := hex1.vl v223
  have l228 := hex1.lt l224
  have t229 := hex1.ty l224 t225
  have hag := hag
  have hex := hex.tr hex1
  refine gx_aload_n C hl dX12_init_311 rfl ?_
  refine gx_sipush C dX12_init_312 (by decide) ?_
  obtain ⟨U230, rfl⟩ : ∃ q : Vt, q = V := ⟨_, rfl⟩
  have h := h U230 rfl
  refine gx_newa C G hl (okP_S (okv_R v227) okP_0) (show rng 1024 by decide) 1024 (by decide) (by decide) (Nat.le_of_ble_eq_true rfl) (Nat.le_of_ble_eq_true rfl) (Nat.le_of_ble_eq_true rfl) [.inr (some o)] rfl (okS_S (okv_R v227) okS_0) dX12_init_315 (fun ad V S231 H eV eS hag1 hex1 hl G => ?_)
  have h := h V eV S231 eS
  have hex1 := exT.of hex1
  have nlU230 : U230.1 < V.1 := by rw [eV]; exact Nat.lt_succ_self _
  have ntU230 : V.2.1 U230.1 = 12 := by rw [eV]; simp [nV]
  have v232 := hex1.vl v227
  have l233 := hex1.lt l228
  have t234 := hex1.ty l228 t229
  have hag := fun k hk => (hag1 k (hex.lt hk)).trans (hag k hk)
  have hex := hex.tr hex1
  have ngU230 : V.2.2.1 U230.1 = 1024 := by rw [eV]; simp [nV]
  obtain ⟨U235, rfl⟩ : ∃ q : Vt, q = V := ⟨_, rfl⟩
  have h := h U235 rfl
  refine gx_putF C hmn G rfl l233 (fo11_44 t234) (Or.inr ⟨_, rfl⟩) rfl nlU230 uw_999 dX12_init_317 (fun V H locs eV hex1 G => ?_)
  have h := h V eV
  have v236 := hex1.vl v232
  have l237 := hex1.lt l233
  have t238 := hex1.ty l233 t234
  have hag := hag
  have hex := hex.tr hex1
  refine gx_aload_n C hl dX12_init_320 rfl ?_
  refine gx_bipush C dX12_init_321 (by decide) ?_
  obtain ⟨U239, rfl⟩ : ∃ q : Vt, q = V := ⟨_, rfl⟩
  have h := h U239 rfl
  refine gx_newa C G hl (okP_S (okv_R v236) okP_0) (show rng 8 by decide) 8 (by decide) (by decide) (Nat.le_of_ble_eq_true rfl) (Nat.le_of_ble_eq_true rfl) (Nat.le_of_ble_eq_true rfl) [.inr (some o)] rfl (okS_S (okv_R v236) okS_0) dX12_init_323 (fun ad V S240 H eV eS hag1 hex1 hl G => ?_)
  have h := h V eV S240 eS
  have hex1 := exT.of hex1
  have nlU239 : U239.1 < V.1 := by rw [eV]; exact Nat.lt_succ_self _
  have ntU239 : V.2.1 U239.1 = 12 := by rw [eV]; simp [nV]
  have v241 := hex1.vl v236
  have l242 := hex1.lt l237
  have t243 := hex1.ty l237 t238
  have hag := fun k hk => (hag1 k (hex.lt hk)).trans (hag k hk)
  have hex := hex.tr hex1
  have ngU239 : V.2.2.1 U239.1 = 8 := by rw [eV]; simp [nV]
  obtain ⟨U244, rfl⟩ : ∃ q : Vt, q = V := ⟨_, rfl⟩
  have h := h U244 rfl
  refine gx_putF C hmn G rfl l242 (fo11_45 t243) (Or.inr ⟨_, rfl⟩) rfl nlU239 uw_1000 dX12_init_325 (fun V H locs eV hex1 G => ?_)
  have h := h V eV
  have v245 := hex1.vl v241
  have l246 := hex1.lt l242
  have t247 := hex1.ty l242 t243
  have hag := hag
  have hex := hex.tr hex1
  refine gx_aload_n C hl dX12_init_328 rfl ?_
  refine gx_bipush C dX12_init_329 (by decide) ?_
  obtain ⟨U248, rfl⟩ : ∃ q : Vt, q = V := ⟨_, rfl⟩
  have h := h U248 rfl
  refine gx_newa C G hl (okP_S (okv_R v245) okP_0) (show rng 8 by decide) 8 (by decide) (by decide) (Nat.le_of_ble_eq_true rfl) (Nat.le_of_ble_eq_true rfl) (Nat.le_of_ble_eq_true rfl) [.inr (some o)] rfl (okS_S (okv_R v245) okS_0) dX12_init_331 (fun ad V S249 H eV eS hag1 hex1 hl G => ?_)
  have h := h V eV S249 eS
  have hex1 := exT.of hex1
  have nlU248 : U248.1 < V.1 := by rw [eV]; exact Nat.lt_succ_self _
  have ntU248 : V.2.1 U248.1 = 12 := by rw [eV]; simp [nV]
  have v250 := hex1.vl v245
  have l251 := hex1.lt l246
  have t252 := hex1.ty l246 t247
  have hag := fun k hk => (hag1 k (hex.lt hk)).trans (hag k hk)
  have hex := hex.tr hex1
  have ngU248 : V.2.2.1 U248.1 = 8 := by rw [eV]; simp [nV]
  obtain ⟨U253, rfl⟩ : ∃ q : Vt, q = V := ⟨_, rfl⟩
  have h := h U253 rfl
  refine gx_putF C hmn G rfl l251 (fo11_46 t252) (Or.inr ⟨_, rfl⟩) rfl nlU248 uw_1001 dX12_init_333 (fun V H locs eV hex1 G => ?_)
  have h := h V eV
  have v254 := hex1.vl v250
  have l255 := hex1.lt l251
  have t256 := hex1.ty l251 t252
  have hag := hag
  have hex := hex.tr hex1
  refine gx_aload_n C hl dX12_init_336 rfl ?_
  refine gx_bipush C dX12_init_337 (by decide) ?_
  obtain ⟨U257, rfl⟩ : ∃ q : Vt, q = V := ⟨_, rfl⟩
  have h := h U257 rfl
  refine gx_newa C G hl (okP_S (okv_R v254) okP_0) (show rng 8 by decide) 8 (by decide) (by decide) (Nat.le_of_ble_eq_true rfl) (Nat.le_of_ble_eq_true rfl) (Nat.le_of_ble_eq_true rfl) [.inr (some o)] rfl (okS_S (okv_R v254) okS_0) dX12_init_339 (fun ad V S258 H eV eS hag1 hex1 hl G => ?_)
  have h := h V eV S258 eS
  have hex1 := exT.of hex1
  have nlU257 : U257.1 < V.1 := by rw [eV]; exact Nat.lt_succ_self _
  have ntU257 : V.2.1 U257.1 = 12 := by rw [eV]; simp [nV]
  have v259 := hex1.vl v254
  have l260 := hex1.lt l255
  have t261 := hex1.ty l255 t256
  have hag := fun k hk => (hag1 k (hex.lt hk)).trans (hag k hk)
  have hex := hex.tr hex1
  have ngU257 : V.2.2.1 U257.1 = 8 := by rw [eV]; simp [nV]
  obtain ⟨U262, rfl⟩ : ∃ q : Vt, q = V := ⟨_, rfl⟩
  have h := h U262 rfl
  refine gx_putF C hmn G rfl l260 (fo11_47 t261) (Or.inr ⟨_, rfl⟩) rfl nlU257 uw_1002 dX12_init_341 (fun V H locs eV hex1 G => ?_)
  have h := h V eV
  have v263 := hex1.vl v259
  have l264 := hex1.lt l260
  have t265 := hex1.ty l260 t261
  have hag := hag
  have hex := hex.tr hex1
  refine gx_aload_n C hl dX12_init_344 rfl ?_
  refine gx_sipush C dX12_init_345 (by decide) ?_
  obtain ⟨U266, rfl⟩ : ∃ q : Vt, q = V := ⟨_, rfl⟩
  have h := h U266 rfl
  refine gx_newa C G hl (okP_S (okv_R v263) okP_0) (show rng 480 by decide) 480 (by decide) (by decide) (Nat.le_of_ble_eq_true rfl) (Nat.le_of_ble_eq_true rfl) (Nat.le_of_ble_eq_true rfl) [.inr (some o)] rfl (okS_S (okv_R v263) okS_0) dX12_init_348 (fun ad V S267 H eV eS hag1 hex1 hl G => ?_)
  have h := h V eV S267 eS
  have hex1 := exT.of hex1
  have nlU266 : U266.1 < V.1 := by rw [eV]; exact Nat.lt_succ_self _
  have ntU266 : V.2.1 U266.1 = 12 := by rw [eV]; simp [nV]
  have v268 := hex1.vl v263
  have l269 := hex1.lt l264
  have t270 := hex1.ty l264 t265
  have hag := fun k hk => (hag1 k (hex.lt hk)).trans (hag k hk)
  have hex := hex.tr hex1
  have ngU266 : V.2.2.1 U266.1 = 480 := by rw [eV]; simp [nV]
  obtain ⟨U271, rfl⟩ : ∃ q : Vt, q = V := ⟨_, rfl⟩
  have h := h U271 rfl
  refine gx_putF C hmn G rfl l269 (fo11_48 t270) (Or.inr ⟨_, rfl⟩) rfl nlU266 uw_1003 dX12_init_350 (fun V H locs eV hex1 G => ?_)
  have h := h V eV
  have v272 := hex1.vl v268
  have l273 := hex1.lt l269
  have t274 := hex1.ty l269 t270
  have hag := hag
  have hex := hex.tr hex1
  refine gx_aload_n C hl dX12_init_353 rfl ?_
  refine gx_bipush C dX12_init_354 (by decide) ?_
  obtain ⟨U275, rfl⟩ : ∃ q : Vt, q = V := ⟨_, rfl⟩
  have h := h U275 rfl
  refine gx_newa C G hl (okP_S (okv_R v272) okP_0) (show rng 60 by decide) 60 (by decide) (by decide) (Nat.le_of_ble_eq_true rfl) (Nat.le_of_ble_eq_true rfl) (Nat.le_of_ble_eq_true rfl) [.inr (some o)] rfl (okS_S (okv_R v272) okS_0) dX12_init_356 (fun ad V S276 H eV eS hag1 hex1 hl G => ?_)
  have h := h V eV S276 eS
  have hex1 := exT.of hex1
  have nlU275 : U275.1 < V.1 := by rw [eV]; exact Nat.lt_succ_self _
  have ntU275 : V.2.1 U275.1 = 12 := by rw [eV]; simp [nV]
  have v277 := hex1.vl v272
  have l278 := hex1.lt l273
  have t279 := hex1.ty l273 t274
  have hag := fun k hk => (hag1 k (hex.lt hk)).trans (hag k hk)
  have hex := hex.tr hex1
  have ngU275 : V.2.2.1 U275.1 = 60 := by rw [eV]; simp [nV]
  obtain ⟨U280, rfl⟩ : ∃ q : Vt, q = V := ⟨_, rfl⟩
  have h := h U280 rfl
  refine gx_putF C hmn G rfl l278 (fo11_49 t279) (Or.inr ⟨_, rfl⟩) rfl nlU275 uw_1004 dX12_init_358 (fun V H locs eV hex1 G => ?_)
  have h := h V eV
  have v281 := hex1.vl v277
  have l282 := hex1.lt l278
  have t283 := hex1.ty l278 t279
  have hag := hag
  have hex := hex.tr hex1
  exact gx_vretC C G hag hex hret h dX12_init_361 ⟨Nat.le_of_ble_eq_true rfl, Nat.le_of_ble_eq_true rfl⟩
