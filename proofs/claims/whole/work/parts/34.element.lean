/-! ===== element: two kinds of FAILURE leave the class ===== -/
def PT_X11_element (V : Vt) (o : Nat) (x1 x2 : Int) (S : Me) (Q : Int → Me → Prop) (QX : String → Me → Prop) : Prop := PT_X11_findShelf V o x1 S (fun t S1 => (t = none → QX "java/lang/IllegalArgumentException" S1) ∧ (¬ t = none → ∃ z : Nat, t = some z ∧ V.2.1 z = 7 ∧ ((S1.2 z 1 = none → QX "java/lang/IllegalStateException" S1) ∧ (¬ S1.2 z 1 = none → ∃ w : Nat, S1.2 z 1 = some w ∧ V.2.1 w = 12 ∧ ((x2 < 0 → QX "java/lang/IllegalStateException" S1) ∧ (¬ x2 < 0 → ((x2 < (V.2.2.1 w : Int) → Q (S1.1 w x2.toNat) S1) ∧ (¬ x2 < (V.2.2.1 w : Int) → QX "java/lang/IllegalStateException" S1))))))))
def xcE (D : va_G) (cy : ClassId × ClassId × ClassId × ClassId) (ad : Nat → Nat) (V : Vt) (A : Nat → Prop) (QX : String → Me → Prop) : String → State → State → Prop := fun E st t => (∃ S' : Me, QX E S' ∧ Gx D cy ad V S' t.heap) ∧ va_F A st t
theorem tgtA : ∀ w ∈ Cond.classLink RX11 327 "java/lang/IllegalArgumentException" :: Cond.initialized "java/lang/IllegalArgumentException" :: vx_atS RX11 331 "java/lang/IllegalArgumentException" ["java/lang/RuntimeException", "java/lang/Exception"], vx_ot w = true := by decide +kernel
theorem tgtS : ∀ w ∈ Cond.classLink RX11 337 "java/lang/IllegalStateException" :: Cond.initialized "java/lang/IllegalStateException" :: vx_atS RX11 341 "java/lang/IllegalStateException" ["java/lang/RuntimeException", "java/lang/Exception"], vx_ot w = true := by decide +kernel
theorem xc_of {D : va_G} {cy : ClassId × ClassId × ClassId × ClassId} {ad : Nat → Nat} {V : Vt} {S : Me} {A : Nat → Prop} {QX : String → Me → Prop} {s t : State} {H : Heap} {locs : List Loc} {E : String} (G : Gy D cy A s.heap ad V S H locs) (h : QX E S) (h2 : H.size ≤ t.heap.size) (h3 : ∀ q : Nat, q < H.size → t.heap[q]? = H[q]?) : xcE D cy ad V A QX E s t := by
  refine ⟨⟨S, h, ⟨fun k q9 hk => (G.1.1 k q9 hk).kept (h3 q9.1 (G.1.1 k q9 hk).lt), G.1.2⟩⟩, Nat.le_trans G.2.2.1 h2, fun q9 h1 h4 => ?_⟩
  rw [h3 q9 (Nat.lt_of_lt_of_le h1 G.2.2.1)]
  exact G.2.2.2.1 q9 h1 h4
set_option maxHeartbeats 4000000 in
set_option maxRecDepth 100000 in
theorem c_X11_element (l : Launch) (hst : l.stackTraces = false) (D : va_G) (cy : ClassId × ClassId × ClassId × ClassId) (ad : Nat → Nat) {V : Vt} {S : Me} {o : Nat} {x1 x2 : Int} (hV : fX11 V o) (rx1 : rng x1) (rx2 : rng x2) {Q : Int → Me → Prop} {QX : String → Me → Prop} (h : PT_X11_element V o x1 x2 S Q QX) (sz : Nat) : vx_Met l yX11_element (.code yX11_element cX11_element 5 (some .long) :: UW) ({ frames := 6, cells := 1, slots := 6, locals := 82 }) (va_Pc [vR ad (some o), vI x1, vI x2] (fun U => U.heap.size = sz ∧ Gx D cy ad V S U.heap ∧ Kx D cy U ∧ SX (RA ad V.1 sz) U U.heap)) (fun _ st oc t => (∃ (x : Int) (S' : Me), oc = .returned (some (vL x)) ∧ rng x ∧ Q x S' ∧ Gx D cy ad V S' t.heap) ∧ va_F (RA ad V.1 sz) st t) (xcE D cy ad V (RA ad V.1 sz) QX) 1 6 (RA ad V.1 sz) := by
  refine vx_ofW (cc := cX11_element) (maxL := 5) (ret := some .long) (by decide) rfl ?_
  intro p e s m args below meth c s₁ B hml hex hv
  obtain ⟨rfl, hsz, hG, hK, hSX⟩ := hv
  subst hsz
  have hts0 := atoms_spec (ws := (.code yX11_element cX11_element 5 (some .long) :: UW)) B.pre
  have hown : s.vm.findClass RX11 = some m.cls := findClass_of_methodNamed B.named
  have hl := lo_entry ad [.inr (some o), .inl x1, .inl x2] 5 (Nat.le_of_ble_eq_true rfl)
  have hl : lo ad ((lg_sl [vR ad (some o), vI x1, vI x2] ++ List.replicate (5 - (lg_sl [vR ad (some o), vI x1, vI x2]).length) Slot.unset).toArray) [some (.inr (some o)), some (.inl x1), some (.inl x2), none, none] := hl
  rw [lg_entry_eq]
  generalize (lg_sl [vR ad (some o), vI x1, vI x2] ++ List.replicate (5 - (lg_sl [vR ad (some o), vI x1, vI x2]).length) Slot.unset).toArray = ls at hl ⊢
  obtain ⟨A, eA⟩ : ∃ q, q = RA ad V.1 s.heap.size := ⟨_, rfl⟩
  rw [← eA] at hSX ⊢
  have hts : ∀ w ∈ UW, w.before [vR ad (some o), vI x1, vI x2].toArray s = true := fun w hw => hts0 w (List.mem_cons_of_mem _ hw)
  have C : Cx p s m [vR ad (some o), vI x1, vI x2].toArray meth c cX11_element RX11 D cy A := ⟨B.exec, B.bytes, hown, hts, hK, fun q h => by rw [eA]; exact Or.inr h, B.notSynchronized⟩
  have G : Gy D cy A s.heap ad V S s.heap [] := ⟨hG, fun k hk => by rw [eA]; exact Or.inl ⟨k, hk, rfl⟩, va_S.rf⟩
  have hret := B.returns
  clear eA
  obtain ⟨-, ⟨sa1, hs1⟩, ⟨sa2, hs2⟩, ⟨sa3, hs3⟩, h5, h6⟩ := hSX
  unfold PT_X11_element at h
  refine gx_aload_n C hl dX11_element_0 rfl ?_
  refine gx_iload_n C hl dX11_element_1 rfl ?_
  refine gx_callV C G hl hml (c_X11_findShelf l D cy ad hV rx1 h) rfl (fX11_o hV) (by rw [(fX11_c hV)]; rfl) (by rw [(fX11_c hV)]; decide) rfl uw_748 uw_745 uw_747 up_13 uw_1 hd_X11_findShelf ⟨Nat.le_of_ble_eq_true rfl, Nat.le_of_ble_eq_true rfl⟩ ⟨Nat.zero_le _, Nat.zero_le _⟩ rfl rfl (hw_le ad [] rfl (Nat.le_of_ble_eq_true rfl)) dX11_element_2 (kkR (fun t2 S1 H locs vt2 h G => ?_))
  refine gx_astore_n C hl dX11_element_5 (Nat.le_of_ble_eq_true rfl) (PL' := [some (.inr (some o)), some (.inl x1), some (.inl x2), some (.inr t2), none]) rfl (fun ls hl => ?_)
  refine gx_aload_n C hl dX11_element_6 rfl ?_
  refine gx_ifnonnull (tgt := 21) C dX11_element_7 (by decide) (fun c3 => ?_) (fun c3 => ?_)
  · have h := h.2 c3
    refine gx_aload_n C hl dX11_element_21 rfl ?_
    obtain ⟨z4, hz4, tz4, h⟩ := h
    have lz4 := (vt2 z4 hz4)
    refine gx_getP C G hz4 lz4 (fo7_1 tz4) uw_205 (fun _ h9 => h9) dX11_element_22 ?_
    have v5 := G.v z4 1
    refine gx_astore C hl dX11_element_25 (Nat.le_of_ble_eq_true rfl) (PL' := [some (.inr (some o)), some (.inl x1), some (.inl x2), some (.inr t2), some (.inr (S1.2 z4 1))]) rfl (fun ls hl => ?_)
    refine gx_aload C hl dX11_element_27 rfl ?_
    refine gx_ifnonnull (tgt := 43) C dX11_element_29 (by decide) (fun c6 => ?_) (fun c6 => ?_)
    · obtain ⟨w, hw, tw, h⟩ := h.2 c6
      have lw := v5 w hw
      have b54 : QX "java/lang/IllegalStateException" S1 → W p l e (rmA 6 82 1 6) s m [vR ad (some o), vI x1, vI x2].toArray below meth c H locs 0 0 (vx_MQ below (fun _ st oc t => (∃ (x : Int) (S' : Me), oc = .returned (some (vL x)) ∧ rng x ∧ Q x S' ∧ Gx D cy ad V S' t.heap) ∧ va_F A st t) (xcE D cy ad V A QX) [vR ad (some o), vI x1, vI x2].toArray s 1 6 A) (F0 m 54 ls []) := fun hQ =>
        vx_throwSW (names := ["java/lang/RuntimeException", "java/lang/Exception"]) (ic := 341) (sa := sa3) (A := A) C.1 C.2.1 hst hown (by decide +kernel) (by decide +kernel) (hts _ uw_932) (hts _ uw_21) hs3 (vx_hat2 hts hK.2 vxS_in vxS_no) tgtS h5 h6 G.2.2 (hl.1.trans hml.symm) dX11_element_54 dX11_element_57 dX11_element_58 dX11_element_61 dX11_element_64 (fun x hx => (hex x hx).elim) (Nat.le_of_ble_eq_true rfl) (Nat.le_of_ble_eq_true rfl) (Nat.le_of_ble_eq_true rfl) (Nat.le_of_ble_eq_true rfl) B.notSynchronized (fun t _ h2 h3 => xc_of G hQ h2 h3) G.2.2.2.2 (Nat.le_of_ble_eq_true rfl) (Nat.le_of_ble_eq_true rfl)
      refine gx_iload_n C hl dX11_element_43 rfl ?_
      refine gx_if_lt (tgt := 54) C rx2 dX11_element_44 (by decide) (fun c7 => ?_) (fun c7 => ?_)
      · exact b54 (h.1 c7)
      · have h := h.2 c7
        refine gx_iload_n C hl dX11_element_47 rfl ?_
        refine gx_aload C hl dX11_element_48 rfl ?_
        refine gx_alen C G hw lw tw dX11_element_50 ?_
        have r8 := G.l w
        refine gx_icmp_lt (tgt := 65) C rx2 r8 dX11_element_51 (by decide) (fun c8 => ?_) (fun c8 => ?_)
        · have h := h.1 c8
          refine gx_aload C hl dX11_element_65 rfl ?_
          refine gx_iload_n C hl dX11_element_67 rfl ?_
          refine gx_iald C G hw lw tw rx2 (Int.not_lt.mp c7) c8 dX11_element_68 ?_
          have r9 := G.r w x2.toNat
          refine gx_i2l C r9 dX11_element_69 ?_
          exact vx_ret (W.widen (Nat.zero_le _) (Nat.zero_le _) (W.lret C.1 C.2.1 hret (fun t ht _ => ⟨⟨_, S1, rfl, r9, h, by rw [ht]; exact G.1⟩, G.2.2.F ht⟩) G.2.2.2.2 dX11_element_70 C.2.2.2.2.2.2))
        · exact b54 (h.2 c8)
    · have h := h.1 c6
      exact vx_throwSW (names := ["java/lang/RuntimeException", "java/lang/Exception"]) (ic := 341) (sa := sa2) (A := A) C.1 C.2.1 hst hown (by decide +kernel) (by decide +kernel) (hts _ uw_932) (hts _ uw_21) hs2 (vx_hat2 hts hK.2 vxS_in vxS_no) tgtS h5 h6 G.2.2 (hl.1.trans hml.symm) dX11_element_32 dX11_element_35 dX11_element_36 dX11_element_39 dX11_element_42 (fun x hx => (hex x hx).elim) (Nat.le_of_ble_eq_true rfl) (Nat.le_of_ble_eq_true rfl) (Nat.le_of_ble_eq_true rfl) (Nat.le_of_ble_eq_true rfl) B.notSynchronized (fun t _ h2 h3 => xc_of G h h2 h3) G.2.2.2.2 (Nat.le_of_ble_eq_true rfl) (Nat.le_of_ble_eq_true rfl)
  · have h := h.1 c3
    exact vx_throwSW (names := ["java/lang/RuntimeException", "java/lang/Exception"]) (ic := 331) (sa := sa1) (A := A) C.1 C.2.1 hst hown (by decide +kernel) (by decide +kernel) (hts _ uw_916) (hts _ uw_20) hs1 (vx_hat2 hts hK.2 vxA_in vxA_no) tgtA h5 h6 G.2.2 (hl.1.trans hml.symm) dX11_element_10 dX11_element_13 dX11_element_14 dX11_element_17 dX11_element_20 (fun x hx => (hex x hx).elim) (Nat.le_of_ble_eq_true rfl) (Nat.le_of_ble_eq_true rfl) (Nat.le_of_ble_eq_true rfl) (Nat.le_of_ble_eq_true rfl) B.notSynchronized (fun t _ h2 h3 => xc_of G h h2 h3) G.2.2.2.2 (Nat.le_of_ble_eq_true rfl) (Nat.le_of_ble_eq_true rfl)
