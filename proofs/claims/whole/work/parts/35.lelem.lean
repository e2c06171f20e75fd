/-! ===== the law's element: both FAILURES are caught ===== -/
theorem uwLelem : Cond.codeWith yL_element cL_element 5 (some .int) [(0, 9, 12, 13), (0, 9, 16, 15)] ∈ UW := uwT 909 (by decide +kernel) (by decide +kernel)
theorem hd_X11_element : yX11_element.cls ≠ "java/lang/invoke/MethodHandle" ∧ yX11_element.cls ≠ "java/lang/invoke/VarHandle" ∧ (parseMethodDescriptor yX11_element.desc).map (fun d => d.parameters.length) = some 2 := by decide +kernel
theorem hd_L_element : yL_element.cls ≠ "java/lang/invoke/MethodHandle" ∧ yL_element.cls ≠ "java/lang/invoke/VarHandle" ∧ (parseMethodDescriptor yL_element.desc).map (fun d => d.parameters.length) = some 4 := by decide +kernel
def PT_L_element (V : Vt) (o : Nat) (x1 x2 : Int) (w : Nat) (S : Me) (Q : Int → Me → Prop) : Prop := PT_X11_element V o x1 x2 S (fun x S1 => Q 0 (sI S1 w 0 x)) (fun E S1 => (E = "java/lang/IllegalArgumentException" ∧ Q 1 S1) ∨ (E = "java/lang/IllegalStateException" ∧ Q 2 S1))
set_option maxHeartbeats 4000000 in
set_option maxRecDepth 100000 in
theorem c_L_element (l : Launch) (hst : l.stackTraces = false) (D : va_G) (cy : ClassId × ClassId × ClassId × ClassId) (ad : Nat → Nat) {V : Vt} {S : Me} {o w : Nat} {x1 x2 : Int} (hV : fX11 V o) (rx1 : rng x1) (rx2 : rng x2) (lw : w < V.1) (tw : V.2.1 w = 15) (nw : V.2.2.1 w = 1) {Q : Int → Me → Prop} (h : PT_L_element V o x1 x2 w S Q) (sz : Nat) : Met l yL_element (.codeWith yL_element cL_element 5 (some .int) [(0, 9, 12, 13), (0, 9, 16, 15)] :: UW) ({ frames := 7, cells := 1, slots := 6, locals := 106 }) (va_Pc [vR ad (some o), vI x1, vI x2, vR ad (some w)] (fun U => U.heap.size = sz ∧ Gx D cy ad V S U.heap ∧ Kx D cy U ∧ SX (RA ad V.1 sz) U U.heap ∧ va_Nc "java/lang/IllegalStateException" "java/lang/IllegalArgumentException" U)) (fun _ st oc t => (∃ (r : Option (Int ⊕ Option Nat)) (S' : Me), oc = .returned (r.map (vS ad)) ∧ (∀ v, r = some v → okv V v) ∧ qI Q r S' ∧ Gx D cy ad V S' t.heap) ∧ va_F (RA ad V.1 sz) st t) 1 6 (RA ad V.1 sz) := by
  refine va_MetW (cc := cL_element) (maxL := 5) (ret := some .int) (hh := [(0, 9, 12, 13), (0, 9, 16, 15)]) (by decide) rfl ?_
  intro p e s m args below meth c s₁ B hml hv
  obtain ⟨rfl, hsz, hG, hK, hSX, hNc⟩ := hv
  subst hsz
  have hts0 := atoms_spec (ws := (.codeWith yL_element cL_element 5 (some .int) [(0, 9, 12, 13), (0, 9, 16, 15)] :: UW)) B.pre
  have htab : c.exceptionTable.toList = tableOf [(0, 9, 12, 13), (0, 9, 16, 15)] := vx_table (x := yL_element) B (hts0 _ List.mem_cons_self)
  have hown : s.vm.findClass RL = some m.cls := findClass_of_methodNamed B.named
  have hl := lo_entry ad [.inr (some o), .inl x1, .inl x2, .inr (some w)] 5 (Nat.le_of_ble_eq_true rfl)
  have hl : lo ad ((lg_sl [vR ad (some o), vI x1, vI x2, vR ad (some w)] ++ List.replicate (5 - (lg_sl [vR ad (some o), vI x1, vI x2, vR ad (some w)]).length) Slot.unset).toArray) [some (.inr (some o)), some (.inl x1), some (.inl x2), some (.inr (some w)), none] := hl
  rw [lg_entry_eq]
  generalize (lg_sl [vR ad (some o), vI x1, vI x2, vR ad (some w)] ++ List.replicate (5 - (lg_sl [vR ad (some o), vI x1, vI x2, vR ad (some w)]).length) Slot.unset).toArray = ls at hl ⊢
  obtain ⟨A, eA⟩ : ∃ q, q = RA ad V.1 s.heap.size := ⟨_, rfl⟩
  have hts : ∀ w9 ∈ UW, w9.before [vR ad (some o), vI x1, vI x2, vR ad (some w)].toArray s = true := fun w hw => hts0 w (List.mem_cons_of_mem _ hw)
  have C : Cx p s m [vR ad (some o), vI x1, vI x2, vR ad (some w)].toArray meth c cL_element RL D cy A := ⟨B.exec, B.bytes, hown, hts, hK, fun q h => by rw [eA]; exact Or.inr h, B.notSynchronized⟩
  have G : Gy D cy A s.heap ad V S s.heap [] := ⟨hG, fun k hk => by rw [eA]; exact Or.inl ⟨k, hk, rfl⟩, va_S.rf⟩
  have hret := B.returns
  have hcall := c_X11_element l hst D cy ad hV rx1 rx2 h s.heap.size
  rw [← eA] at hSX hcall ⊢
  clear eA
  show W p l e (rmA 7 106 1 6) s m _ below meth c s.heap [] 0 0 (qmT below D cy ad V A _ s 1 6 (qI Q)) (F0 m 0 ls [])
  refine gx_aload_n C hl dL_element_0 rfl ?_
  refine gx_iconst C dL_element_1 ?_
  refine gx_aload_n C hl dL_element_2 rfl ?_
  refine gx_iload_n C hl dL_element_3 rfl ?_
  refine gx_iload_n C hl dL_element_4 rfl ?_
  have hrec : ∀ (q9 : vw_C), vwCl[V.2.1 o]? = some q9 → ∃ cell : Cell, s.heap[ad o]? = some cell ∧ cell.vm.isStatics = false ∧ s.vm.findClass q9.1 = some cell.cls := fun q9 hq => va_recv hK.1 G.1.1 hq (wo_o (fX11_o hV) (by rw [fX11_c hV]; decide))
  have hr := vx_runV (C := RX11) (b := ad o) (As := [vI x1, vI x2]) (rest := [vI 0, vR ad (some w)]) (Ts := UW) (own := RL) (nL := 5) (g := F0 m 5 ls [vI x2, vI x1, vR ad (some o), vI 0, vR ad (some w)]) (cells := 0) (slots := 0) (R := rmA 7 106 1 6) (locs := []) (H := s.heap) (p := p) (e := e) (below := below) (meth := meth) ⟨C.1, C.2.1, hml, hown, hts⟩ hcall ⟨callB_of (ws' := UW) 2 hts (uw_in uw_915) rfl rfl rfl (hts _ uw_1) (hts _ uw_912) hd_X11_element ⟨Nat.le_of_ble_eq_true rfl, Nat.le_of_ble_eq_true rfl⟩, hts _ uw_913, hts _ uw_914⟩ ⟨fun a U g mk q => ⟨q.1, q.2.1, q.2.2.1, Kx.same (u := U) (U := U.calling g mk a) rfl q.2.2.2.1, SX.same (u := U) (U := U.calling g mk a) rfl q.2.2.2.2⟩, hrec (RX11, TX11, 16) (by rw [fX11_c hV]; rfl), fun U hU hW => ⟨rfl, by rw [hU], by rw [hU]; exact G.1, Kx.warm hW hK, by rw [hU]; exact SX.warm hW hSX⟩⟩ rfl rfl hl.1 rfl (lv_room (Nat.le_of_ble_eq_true rfl)) dL_element_5 ⟨Nat.le_of_ble_eq_true rfl, Nat.le_of_ble_eq_true rfl⟩
  have hGy : ∀ (S' : Me) (st₀ t T' : State) (L : List Loc), st₀.heap = s.heap → T'.heap = t.heap → (∀ z ∈ L, A z.base) → Gx D cy ad V S' t.heap → va_F A st₀ t → Gy D cy A s.heap ad V S' T'.heap ([] ++ L) := by
    intro S' st₀ t T' L h0 e1 hL hg hF
    refine ⟨by rw [e1]; exact hg, G.2.1, by rw [e1, ← h0]; exact hF.1, fun q h1 h2 => by rw [e1, hF.2 q (by rw [h0]; exact h1) h2, h0], fun q hq => hL q hq⟩
  intro T hT X
  rcases hr T hT X with ⟨v, st₀, t, T', L, h0, X', hL, e1, e2, ⟨⟨x, S', hv, rx, hQ, hg⟩, hF⟩, st⟩ | ⟨q, st₀, t, T', L, E, ce, h0, X', hL, e1, e2, ⟨⟨S', hQ, hg⟩, hF⟩, hce, hcv, hcl, st⟩
  · cases hv
    have G' := hGy S' st₀ t T' L h0 e1 hL hg hF
    have hW8 : W p l e (rmA 7 106 1 6) s m [vR ad (some o), vI x1, vI x2, vR ad (some w)].toArray below meth c T'.heap ([] ++ L) (0 + 1) (0 + 6) (qmT below D cy ad V A [vR ad (some o), vI x1, vI x2, vR ad (some w)].toArray s 1 6 (qI Q)) (F0 m 8 ls [vL x, vI 0, vR ad (some w)]) := by
      refine gx_last C G' rfl lw tw (show rng 0 by decide) rx (Int.le_refl 0) (by rw [nw]; decide) dL_element_8 (fun H1 locs1 G1 => ?_)
      refine gx_goto (tgt := 20) C dL_element_9 (by decide) ?_
      refine gx_iconst C dL_element_20 ?_
      exact gx_iretT C G1 hret (show rng 0 by decide) hQ dL_element_21 ⟨Nat.le_refl _, Nat.le_refl _⟩
    obtain ⟨t9, a1, b1⟩ := hW8 T' rfl X'
    exact ⟨t9, st t9 a1, b1⟩
  · have G' := hGy S' st₀ t T' L h0 e1 hL hg hF
    rw [← e1] at hce
    rcases hQ with ⟨rfl, hQ⟩ | ⟨rfl, hQ⟩
    · have hW12 : W p l e (rmA 7 106 1 6) s m [vR ad (some o), vI x1, vI x2, vR ad (some w)].toArray below meth c T'.heap ([] ++ L) (0 + 1) (0 + 6) (qmT below D cy ad V A [vR ad (some o), vI x1, vI x2, vR ad (some w)].toArray s 1 6 (qI Q)) (F0 m 12 ls [.ref q]) := by
        refine gx_astoreX C hl dL_element_12 (Nat.le_of_ble_eq_true rfl) (fun ls hl => ?_)
        refine gx_iconst C dL_element_14 ?_
        exact gx_iretT C G' hret (show rng 1 by decide) hQ dL_element_15 ⟨Nat.le_refl _, Nat.le_refl _⟩
      have hx := vx_catch (own := RL) (name := "java/lang/IllegalArgumentException") (E := "java/lang/IllegalArgumentException") (pc := 5) (rest := [vI 0, vR ad (some w)]) hown [] ⟨0, 9, 12, 13⟩ [⟨0, 9, 16, 15⟩] (by rw [htab]; rfl) (fun z hz => by cases hz) rfl (by decide) (hts _ uw_910) (va_Nw.use rfl (hK.2 _ (by decide +kernel))) hce hcv hcl hW12
      obtain ⟨t9, a1, b1⟩ := hx T' rfl X'
      exact ⟨t9, st.trans a1, b1⟩
    · have hW16 : W p l e (rmA 7 106 1 6) s m [vR ad (some o), vI x1, vI x2, vR ad (some w)].toArray below meth c T'.heap ([] ++ L) (0 + 1) (0 + 6) (qmT below D cy ad V A [vR ad (some o), vI x1, vI x2, vR ad (some w)].toArray s 1 6 (qI Q)) (F0 m 16 ls [.ref q]) := by
        refine gx_astoreX C hl dL_element_16 (Nat.le_of_ble_eq_true rfl) (fun ls hl => ?_)
        refine gx_iconst C dL_element_18 ?_
        exact gx_iretT C G' hret (show rng 2 by decide) hQ dL_element_19 ⟨Nat.le_refl _, Nat.le_refl _⟩
      have hx := vx_catch (own := RL) (name := "java/lang/IllegalStateException") (E := "java/lang/IllegalStateException") (pc := 5) (rest := [vI 0, vR ad (some w)]) hown [⟨0, 9, 12, 13⟩] ⟨0, 9, 16, 15⟩ [] (by rw [htab]; rfl) (fun z hz => by
        rcases List.mem_singleton.mp hz with rfl
        exact Or.inr ⟨by decide, _, hts _ uw_910, hNc⟩) rfl (by decide) (hts _ uw_911) (va_Nw.use rfl (hK.2 _ (by decide +kernel))) hce hcv hcl hW16
      obtain ⟨t9, a1, b1⟩ := hx T' rfl X'
      exact ⟨t9, st.trans a1, b1⟩
