/-! ===== toss: a FAILURE is thrown, and caught ===== -/
theorem uwToss : Cond.codeWith yX11_toss cX11_toss 5 (some .int) [(26, 30, 33, 368)] ∈ UW := uwT 826 (by decide +kernel) (by decide +kernel)
theorem uw_inW {y : MethodName} {cc : ByteArray} {n : Nat} {r : Option FieldType} {hh : List (Nat × Nat × Nat × Nat)} (h : Cond.codeWith y cc n r hh ∈ UW) : GoodIn UW (.codeWith y cc n r hh :: UW) := fun w hw => by
  rcases List.mem_cons.mp hw with e | e
  · rw [e]; exact uw_good _ h
  · exact uw_good _ e
def PT_X11_toss (V : Vt) (o : Nat) (x1 : Int) (S : Me) (Q : Int → Me → Prop) : Prop := PT_X11_findShelf V o x1 S (fun t S1 => (t = none → Q (-1) S1) ∧ (¬ t = none → ∃ z : Nat, t = some z ∧ V.2.1 z = 7 ∧ ((S1.2 z 0 = none → PT_X8_refusalWithoutAsk V z S1 Q) ∧ (¬ S1.2 z 0 = none → ∃ w : Nat, S1.2 z 0 = some w ∧ isA (V.2.1 w) ∧ (V.2.1 w = 5 → Q (-15) S1) ∧ (¬ V.2.1 w = 5 → Q (S1.1 w 0) S1)))))
def qmT (below : List Frame) (D : va_G) (cy : ClassId × ClassId × ClassId × ClassId) (ad : Nat → Nat) (V : Vt) (A : Nat → Prop) (args : Array Value) (s : State) (mc ms : Nat) (Qo : Option (Int ⊕ Option Nat) → Me → Prop) : State → Prop := MQ below (fun _ st oc t => (∃ (r : Option (Int ⊕ Option Nat)) (S' : Me), oc = .returned (r.map (vS ad)) ∧ (∀ v, r = some v → okv V v) ∧ Qo r S' ∧ Gx D cy ad V S' t.heap) ∧ va_F A st t) args s mc ms A
section GT
variable {p : Program} {l : Launch} {e : Env} {R : Room} {s : State} {m : MethodId} {args : Array Value} {below : List Frame} {meth : Method} {c : Code} {H : Heap} {locs : List Loc} {cells slots : Nat} {Q : State → Prop} {cc : ByteArray} {pc : Nat} {ls : Array Slot} {rest : List Value} {D : va_G} {cy : ClassId × ClassId × ClassId × ClassId} {A : Nat → Prop} {ad : Nat → Nat} {V : Vt} {S : Me} {own : String} {PL : List (Option (Int ⊕ Option Nat))}
theorem gx_iretT (C : Cx p s m args meth c cc own D cy A) (G : Gy D cy A s.heap ad V S H locs) {x : Int} {mc ms : Nat} {Qi : Int → Me → Prop} (hr : meth.sig.returnType = some .int) (rx : rng x) (h : Qi x S) (hdg : decode cc pc = .ok (.ireturn, 1)) (hm : cells ≤ mc ∧ slots ≤ ms) : W p l e R s m args below meth c H locs cells slots (qmT below D cy ad V A args s mc ms (qI Qi)) (F0 m pc ls [vI x]) :=
  W.widen hm.1 hm.2 (W.iret C.1 C.2.1 hr (fun t ht _ => ⟨⟨some (.inl x), S, rfl, fun v hv => by cases hv; exact rx, ⟨x, rfl, h⟩, by rw [ht]; exact G.1⟩, G.2.2.F ht⟩) G.2.2.2.2 hdg C.2.2.2.2.2.2)
/-- a foreign reference is put into a local: nothing is known of it -/
theorem gx_astoreX (C : Cx p s m args meth c cc own D cy A) {k : Nat} {q : Nat} (hl : lo ad ls PL) (hdg : decode cc pc = .ok (.astore k, 2)) (hi : k < PL.length) (kk : ∀ ls', lo ad ls' (PL.set k none) → W p l e R s m args below meth c H locs cells slots Q (F0 m (pc + 2) ls' rest)) : W p l e R s m args below meth c H locs cells slots Q (F0 m pc ls (.ref q :: rest)) := by
  refine lv_astore C.1 C.2.1 hdg (lo_has hl) hi rfl (fun ls' h' => kk ls' ⟨by rw [h'.1, List.length_set], h'.2.1, fun j w hj => ?_⟩)
  rw [List.getElem?_set] at hj
  by_cases e9 : k = j
  · subst e9
    rw [if_pos rfl, if_pos hi] at hj
    cases hj
  · rw [if_neg e9] at hj
    refine h'.2.2 (j, vS ad w) (List.mem_cons_of_mem _ (List.mem_filter.mpr ⟨lof_in hj, ?_⟩))
    simp [vS_cat, Ne.symm e9]
end GT
theorem hd_X0_fail : yX0_fail.cls ≠ "java/lang/invoke/MethodHandle" ∧ yX0_fail.cls ≠ "java/lang/invoke/VarHandle" ∧ (parseMethodDescriptor yX0_fail.desc).map (fun d => d.parameters.length) = some 0 := by decide +kernel
theorem hd_v_fail : ("RowBank$Ask" : String) ≠ "java/lang/invoke/MethodHandle" ∧ ("RowBank$Ask" : String) ≠ "java/lang/invoke/VarHandle" ∧ (parseMethodDescriptor "()V").map (fun d => d.parameters.length) = some 0 := by decide +kernel
def PT_X6_fail (V : Vt) (o : Nat) (S : Me) (Q : Me → Prop) : Prop := Q S
theorem hd_X6_fail : yX6_fail.cls ≠ "java/lang/invoke/MethodHandle" ∧ yX6_fail.cls ≠ "java/lang/invoke/VarHandle" ∧ (parseMethodDescriptor yX6_fail.desc).map (fun d => d.parameters.length) = some 0 := by decide +kernel
set_option maxHeartbeats 4000000 in
set_option maxRecDepth 100000 in
theorem c_X6_fail (l : Launch) (D : va_G) (cy : ClassId × ClassId × ClassId × ClassId) (ad : Nat → Nat) {V : Vt} {S : Me} {o : Nat} (ho : o < V.1) (ht : V.2.1 o = 5) {Q : Me → Prop} (h : PT_X6_fail V o S Q) : KM l D cy yX6_fail cX6_fail 1 (Option.none : Option Jvm.ClassFile.FieldType) 0 0 ad V S [.inr (some o)] (qV Q) := by
  refine KM.of (by decide) rfl (Nat.le_of_ble_eq_true rfl) (own := RX6) (fun p e s m args below meth c A ls H locs eA C hret hml hmn hl G => ?_)
  have hl : lo ad ls [some (.inr (some o))] := hl
  clear eA
  unfold PT_X6_fail at h
  exact gx_vret C G hret h dX6_fail_0
set_option maxHeartbeats 4000000 in
set_option maxRecDepth 100000 in
theorem c_X11_toss (l : Launch) (hst : l.stackTraces = false) (D : va_G) (cy : ClassId × ClassId × ClassId × ClassId) (ad : Nat → Nat) {V : Vt} {S : Me} {o : Nat} {x1 : Int} (hV : fX11 V o) (rx1 : rng x1) {Q : Int → Me → Prop} (h : PT_X11_toss V o x1 S Q) (sz : Nat) : Met l yX11_toss (.codeWith yX11_toss cX11_toss 5 (some .int) [(26, 30, 33, 368)] :: UW) ({ frames := 7, cells := 1, slots := 6, locals := 102 }) (va_Pc [vR ad (some o), vI x1] (fun U => U.heap.size = sz ∧ Gx D cy ad V S U.heap ∧ Kx D cy U ∧ SX (RA ad V.1 sz) U U.heap)) (fun _ st oc t => (∃ (r : Option (Int ⊕ Option Nat)) (S' : Me), oc = .returned (r.map (vS ad)) ∧ (∀ v, r = some v → okv V v) ∧ qI Q r S' ∧ Gx D cy ad V S' t.heap) ∧ va_F (RA ad V.1 sz) st t) 1 6 (RA ad V.1 sz) := by
  refine va_MetW (cc := cX11_toss) (maxL := 5) (ret := some .int) (hh := [(26, 30, 33, 368)]) (by decide) rfl ?_
  intro p e s m args below meth c s₁ B hml hv
  obtain ⟨rfl, hsz, hG, hK, hSX⟩ := hv
  subst hsz
  have hts0 := atoms_spec (ws := (.codeWith yX11_toss cX11_toss 5 (some .int) [(26, 30, 33, 368)] :: UW)) B.pre
  have htab : c.exceptionTable.toList = tableOf [(26, 30, 33, 368)] := vx_table (x := yX11_toss) B (hts0 _ List.mem_cons_self)
  have hown : s.vm.findClass RX11 = some m.cls := findClass_of_methodNamed B.named
  have hl := lo_entry ad [.inr (some o), .inl x1] 5 (Nat.le_of_ble_eq_true rfl)
  have hl : lo ad ((lg_sl [vR ad (some o), vI x1] ++ List.replicate (5 - (lg_sl [vR ad (some o), vI x1]).length) Slot.unset).toArray) [some (.inr (some o)), some (.inl x1), none, none, none] := hl
  rw [lg_entry_eq]
  generalize (lg_sl [vR ad (some o), vI x1] ++ List.replicate (5 - (lg_sl [vR ad (some o), vI x1]).length) Slot.unset).toArray = ls at hl ⊢
  obtain ⟨A, eA⟩ : ∃ q, q = RA ad V.1 s.heap.size := ⟨_, rfl⟩
  rw [← eA] at hSX ⊢
  have hts : ∀ w ∈ UW, w.before [vR ad (some o), vI x1].toArray s = true := fun w hw => hts0 w (List.mem_cons_of_mem _ hw)
  have C : Cx p s m [vR ad (some o), vI x1].toArray meth c cX11_toss RX11 D cy A := ⟨B.exec, B.bytes, hown, hts, hK, fun q h => by rw [eA]; exact Or.inr h, B.notSynchronized⟩
  have G : Gy D cy A s.heap ad V S s.heap [] := ⟨hG, fun k hk => by rw [eA]; exact Or.inl ⟨k, hk, rfl⟩, va_S.rf⟩
  have hret := B.returns
  clear eA
  show W p l e (rmA 7 102 1 6) s m _ below meth c s.heap [] 0 0 (qmT below D cy ad V A _ s 1 6 (qI Q)) (F0 m 0 ls [])
  unfold PT_X11_toss at h
  refine gx_aload_n C hl dX11_toss_0 rfl ?_
  refine gx_iload_n C hl dX11_toss_1 rfl ?_
  refine gx_callV C G hl hml (c_X11_findShelf l D cy ad hV rx1 h) rfl (fX11_o hV) (by rw [(fX11_c hV)]; rfl) (by rw [(fX11_c hV)]; decide) rfl uw_748 uw_745 uw_747 up_13 uw_1 hd_X11_findShelf ⟨Nat.le_of_ble_eq_true rfl, Nat.le_of_ble_eq_true rfl⟩ ⟨Nat.zero_le _, Nat.zero_le _⟩ rfl rfl (hw_le ad [] rfl (Nat.le_of_ble_eq_true rfl)) dX11_toss_2 (kkR (fun t2 S1 H locs vt2 h G => ?_))
  refine gx_astore_n C hl dX11_toss_5 (Nat.le_of_ble_eq_true rfl) (PL' := [some (.inr (some o)), some (.inl x1), some (.inr t2), none, none]) rfl (fun ls hl => ?_)
  refine gx_aload_n C hl dX11_toss_6 rfl ?_
  refine gx_ifnonnull (tgt := 12) C dX11_toss_7 (by decide) (fun c3 => ?_) (fun c3 => ?_)
  · have h := h.2 c3
    refine gx_aload_n C hl dX11_toss_12 rfl ?_
    obtain ⟨z4, hz4, tz4, h⟩ := h
    have lz4 := (vt2 z4 hz4)
    refine gx_getP C G hz4 lz4 (fo7_0 tz4) uw_203 (fun _ h9 => h9) dX11_toss_13 ?_
    have v5 := G.v z4 0
    refine gx_astore_n C hl dX11_toss_16 (Nat.le_of_ble_eq_true rfl) (PL' := [some (.inr (some o)), some (.inl x1), some (.inr t2), some (.inr (S1.2 z4 0)), none]) rfl (fun ls hl => ?_)
    refine gx_aload_n C hl dX11_toss_17 rfl ?_
    refine gx_ifnonnull (tgt := 26) C dX11_toss_18 (by decide) (fun c6 => ?_) (fun c6 => ?_)
    · obtain ⟨w, hw, tw, h⟩ := h.2 c6
      have lw := v5 w hw
      have rw0 := G.r w 0
      refine gx_aload_n C hl dX11_toss_26 rfl ?_
      have key : ∀ (cls : String), Cond.selects cls yX0_fail yX0_fail ∈ UW → (∃ cell : Cell, H[ad w]? = some cell ∧ cell.vm.isStatics = false ∧ s.vm.findClass cls = some cell.cls) → Q (S1.1 w 0) S1 → W p l e (rmA 7 102 1 6) s m [vR ad (some o), vI x1].toArray below meth c H locs 0 0 (qmT below D cy ad V A [vR ad (some o), vI x1].toArray s 1 6 (qI Q)) (F0 m 27 ls [vR ad (S1.2 z4 0)]) := by
        intro cls hsel hcellW hQ
        have hSXH : SX A s H := SX.kept (fun a h1 h2 => G.2.2.2.1 a h1 h2) hSX
        have hr := vx_runV (C := cls) (b := ad w) (As := []) (rest := []) (Ts := UW) (own := RX11) (nL := 5) (g := F0 m 27 ls [vR ad (S1.2 z4 0)]) (cells := 0) (slots := 0) (R := rmA 7 102 1 6) (locs := locs) (p := p) (e := e) (below := below) (meth := meth) ⟨C.1, C.2.1, hml, hown, hts⟩ (c_X0_fail l hst D cy A (.inr (some w)) ad H) ⟨callB_of (ws' := UW) 0 hts (uw_in uw_838) rfl rfl rfl (hts _ uw_10) (hts _ uw_828) hd_X0_fail ⟨Nat.le_of_ble_eq_true rfl, Nat.le_of_ble_eq_true rfl⟩, hts _ uw_829, hts _ hsel⟩ ⟨fun a U g mk q => ⟨q.1, q.2.1, Kx.same (u := U) (U := U.calling g mk a) rfl q.2.2.1, SX.same (u := U) (U := U.calling g mk a) rfl q.2.2.2⟩, hcellW, fun U hU hW => ⟨rfl, hU, Kx.warm hW hK, by rw [hU]; exact SX.warm hW hSXH⟩⟩ rfl rfl hl.1 (by rw [hw]; rfl) (lv_room (Nat.zero_le _)) dX11_toss_27 ⟨Nat.le_of_ble_eq_true rfl, Nat.le_of_ble_eq_true rfl⟩
        intro T hT X
        rcases hr T hT X with ⟨v, st₀, t, T', L, h0, X', hL, e1, e2, hF, st⟩ | ⟨q, st₀, t, T', L, E, ce, h0, X', hL, e1, e2, ⟨rfl, hz1, hz2⟩, hce, hcv, hcl, st⟩
        · exact hF.elim
        · have hLn : L = [] := by
            cases L with
            | nil => rfl
            | cons a b => exact (hL a List.mem_cons_self).elim
          subst hLn
          rw [List.append_nil] at X'
          rw [h0] at hz1 hz2
          rw [← e1] at hz1 hz2 hce
          have G' : Gy D cy A s.heap ad V S1 T'.heap locs := by
            refine ⟨⟨fun k q9 hk => (G.1.1 k q9 hk).kept (hz2 q9.1 (G.1.1 k q9 hk).lt), G.1.2⟩, G.2.1, Nat.le_trans G.2.2.1 hz1, fun q9 h1 h2 => ?_, G.2.2.2.2⟩
            rw [hz2 q9 (Nat.lt_of_lt_of_le h1 G.2.2.1)]
            exact G.2.2.2.1 q9 h1 h2
          have hW33 : W p l e (rmA 7 102 1 6) s m [vR ad (some o), vI x1].toArray below meth c T'.heap locs (0 + 1) (0 + 6) (qmT below D cy ad V A [vR ad (some o), vI x1].toArray s 1 6 (qI Q)) (F0 m 33 ls [.ref q]) := by
            refine gx_astoreX C hl dX11_toss_33 (Nat.le_of_ble_eq_true rfl) (fun ls hl => ?_)
            have hl : lo ad ls [some (.inr (some o)), some (.inl x1), some (.inr t2), some (.inr (S1.2 z4 0)), none] := hl
            refine gx_aload_n C hl dX11_toss_35 rfl ?_
            refine gx_getI C G' hw lw (foA_0 tw) uw_308 (fun _ h9 => h9) dX11_toss_36 ?_
            exact gx_iretT C G' hret rw0 hQ dX11_toss_39 ⟨Nat.le_refl _, Nat.le_refl _⟩
          have hx := vx_catch (own := RX11) (name := "java/lang/UnsupportedOperationException") (E := "java/lang/UnsupportedOperationException") (pc := 27) (rest := []) hown [] ⟨26, 30, 33, 368⟩ [] (by rw [htab]; rfl) (fun z hz => by cases hz) rfl (by decide) (hts _ uw_827) (va_Nw.use rfl (hK.2 _ (by decide +kernel))) hce hcv hcl hW33
          obtain ⟨t9, a1, b1⟩ := hx T' rfl X'
          exact ⟨t9, st.trans a1, b1⟩
      have hrec : ∀ (q9 : vw_C), vwCl[V.2.1 w]? = some q9 → ∃ cell : Cell, H[ad w]? = some cell ∧ cell.vm.isStatics = false ∧ s.vm.findClass q9.1 = some cell.cls := fun q9 hq => va_recv hK.1 G.1.1 hq (wo_o lw (by omega))
      by_cases t5 : V.2.1 w = 5
      · have h := h.1 t5
        refine gx_callU (x := yX0_fail) (owner := "RowBank$Ask") C G hl hml (c_X6_fail l D cy ad lw t5 (Q := fun S2 => S2 = S1) rfl) hw lw (by rw [t5]; rfl) (by rw [t5]; decide) uw_835 uw_828 uw_830 (va_Decl.of (hts _ uw_829) (hts _ uw_838)) uw_834 uw_833 uw_11 hd_v_fail ⟨Nat.le_of_ble_eq_true rfl, Nat.le_of_ble_eq_true rfl⟩ ⟨Nat.zero_le _, Nat.zero_le _⟩ rfl rfl (hw_le ad [] rfl (Nat.le_of_ble_eq_true rfl)) dX11_toss_27 (kkV (fun S2 H2 locs2 h2 G2 => ?_))
        rw [h2] at G2
        refine gx_goto (tgt := 40) C dX11_toss_30 (by decide) ?_
        refine gx_bipush C dX11_toss_40 (by decide) ?_
        exact gx_iretT C G2 hret (show rng (-15) by decide) h dX11_toss_42 ⟨Nat.zero_le _, Nat.zero_le _⟩
      · have h := h.2 t5
        rcases tw with t9 | t9 | t9 | t9 | t9
        · exact key RX2 uw_831 (hrec (RX2, TX2, 11) (by rw [t9]; rfl)) h
        · exact key RX3 uw_832 (hrec (RX3, TX3, 13) (by rw [t9]; rfl)) h
        · exact absurd t9 t5
        · exact key RX9 uw_836 (hrec (RX9, TX9, 12) (by rw [t9]; rfl)) h
        · exact key RX10 uw_837 (hrec (RX10, TX10, 12) (by rw [t9]; rfl)) h
    · have h := h.1 c6
      refine gx_aload_n C hl dX11_toss_21 rfl ?_
      refine gx_callV C G hl hml (c_X8_refusalWithoutAsk l D cy ad lz4 tz4 h) hz4 lz4 (by rw [tz4]; rfl) (by rw [tz4]; decide) rfl uw_800 uw_797 uw_798 uw_799 uw_8 hd_X8_refusalWithoutAsk ⟨Nat.le_of_ble_eq_true rfl, Nat.le_of_ble_eq_true rfl⟩ ⟨Nat.zero_le _, Nat.zero_le _⟩ rfl rfl (hw_le ad [] rfl (Nat.le_of_ble_eq_true rfl)) dX11_toss_22 (kkI (fun t11 S10 H locs rt11 h G => ?_))
      exact gx_iretT C G hret rt11 h dX11_toss_25 ⟨Nat.zero_le _, Nat.zero_le _⟩
  · have h := h.1 c3
    refine gx_iconst C dX11_toss_10 ?_
    exact gx_iretT C G hret (show rng (-1) by decide) h dX11_toss_11 ⟨Nat.zero_le _, Nat.zero_le _⟩
