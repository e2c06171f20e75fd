/-! ===== FAILURES: what is thrown, and caught ===== -/
def SX (A : Nat → Prop) (U : State) (H : Heap) : Prop := (∃ a, vk_R RX0 57 "an ask failed" a U) ∧ (∃ a, vk_R RX11 329 "no such shelf" a U) ∧ (∃ a, vk_R RX11 339 "no row is held" a U) ∧ (∃ a, vk_R RX11 342 "no such place" a U) ∧ vx_Zq Bundle.tN "UNASSIGNED_STACK" Bundle.steD A U H ∧ vx_Zq Bundle.tN "SUPPRESSED_SENTINEL" Bundle.listD A U H
theorem SX.same {A : Nat → Prop} {u U : State} {H : Heap} (hv : u.vm = U.vm) (h : SX A u H) : SX A U H := by
  obtain ⟨⟨a1, h1⟩, ⟨a2, h2⟩, ⟨a3, h3⟩, ⟨a4, h4⟩, h5, h6⟩ := h
  have ha : u.vm.Alike U.vm := by rw [hv]; exact Vm.Alike.refl _
  exact ⟨⟨a1, h1.same hv.symm⟩, ⟨a2, h2.same hv.symm⟩, ⟨a3, h3.same hv.symm⟩, ⟨a4, h4.same hv.symm⟩, h5.moved ha, h6.moved ha⟩
theorem SX.warm {A : Nat → Prop} {u U : State} {H : Heap} (hW : u.WarmedH U.vm) (h : SX A u H) : SX A U H := by
  obtain ⟨⟨a1, h1⟩, ⟨a2, h2⟩, ⟨a3, h3⟩, ⟨a4, h4⟩, h5, h6⟩ := h
  exact ⟨⟨a1, h1.warm hW⟩, ⟨a2, h2.warm hW⟩, ⟨a3, h3.warm hW⟩, ⟨a4, h4.warm hW⟩, h5.moved hW.alike, h6.moved hW.alike⟩
theorem SX.kept {A : Nat → Prop} {U : State} {H H1 : Heap} (hq : ∀ a : Nat, a < H.size → ¬ A a → H1[a]? = H[a]?) (h : SX A U H) : SX A U H1 := ⟨h.1, h.2.1, h.2.2.1, h.2.2.2.1, h.2.2.2.2.1.kept hq, h.2.2.2.2.2.kept hq⟩
theorem SX.narrow {A B : Nat → Prop} {U : State} {H : Heap} (hAB : ∀ q, B q → A q) (h : SX A U H) : SX B U H := ⟨h.1, h.2.1, h.2.2.1, h.2.2.2.1, h.2.2.2.2.1.narrow hAB, h.2.2.2.2.2.narrow hAB⟩
theorem vxU_in : ∀ w ∈ (vx_atS RX0 59 "java/lang/UnsupportedOperationException" ["java/lang/RuntimeException", "java/lang/Exception"]).filter goodWord, w ∈ lw_tbl := by decide +kernel
theorem vxA_in : ∀ w ∈ (vx_atS RX11 331 "java/lang/IllegalArgumentException" ["java/lang/RuntimeException", "java/lang/Exception"]).filter goodWord, w ∈ lw_tbl := by decide +kernel
theorem vxS_in : ∀ w ∈ (vx_atS RX11 341 "java/lang/IllegalStateException" ["java/lang/RuntimeException", "java/lang/Exception"]).filter goodWord, w ∈ lw_tbl := by decide +kernel
theorem vxU_no : ∀ w ∈ (vx_atS RX0 59 "java/lang/UnsupportedOperationException" ["java/lang/RuntimeException", "java/lang/Exception"]).filter (fun w => !goodWord w), w ∈ NW ∧ w.onTables = true := by decide +kernel
theorem vxA_no : ∀ w ∈ (vx_atS RX11 331 "java/lang/IllegalArgumentException" ["java/lang/RuntimeException", "java/lang/Exception"]).filter (fun w => !goodWord w), w ∈ NW ∧ w.onTables = true := by decide +kernel
theorem vxS_no : ∀ w ∈ (vx_atS RX11 341 "java/lang/IllegalStateException" ["java/lang/RuntimeException", "java/lang/Exception"]).filter (fun w => !goodWord w), w ∈ NW ∧ w.onTables = true := by decide +kernel
theorem vx_hat2 {args : Array Value} {s : State} {L : List Cond} (h1 : ∀ w ∈ UW, w.before args s = true) (h2 : ∀ w ∈ NW, va_Nw w s) (hin : ∀ w ∈ L.filter goodWord, w ∈ lw_tbl) (hno : ∀ w ∈ L.filter (fun w => !goodWord w), w ∈ NW ∧ w.onTables = true) : ∀ w ∈ L, w.before args s = true := by
  intro w hw
  by_cases g : goodWord w = true
  · exact h1 w (List.mem_filter.mpr ⟨hin w (List.mem_filter.mpr ⟨hw, g⟩), g⟩)
  · obtain ⟨a, b⟩ := hno w (List.mem_filter.mpr ⟨hw, by simpa using g⟩)
    exact va_Nw.use b (h2 w a)
set_option maxHeartbeats 4000000 in
set_option maxRecDepth 100000 in
/-- Ask.fail(): it always throws -/
theorem c_X0_fail (l : Launch) (hst : l.stackTraces = false) (D : va_G) (cy : ClassId × ClassId × ClassId × ClassId) (A0 : Nat → Prop) (v : Int ⊕ Option Nat) (ad : Nat → Nat) (H0 : Heap) : vx_Met l yX0_fail (.code yX0_fail cX0_fail 1 none :: UW) ({ frames := 6, cells := 1, slots := 6, locals := 82 }) (va_Pc [vS ad v] (fun U => U.heap = H0 ∧ Kx D cy U ∧ SX A0 U U.heap)) (fun _ _ _ _ => False) (fun E st t => E = "java/lang/UnsupportedOperationException" ∧ st.heap.size ≤ t.heap.size ∧ ∀ q : Nat, q < st.heap.size → t.heap[q]? = st.heap[q]?) 1 6 (fun _ => False) := by
  refine vx_ofW (cc := cX0_fail) (maxL := 1) (ret := none) (by decide) rfl ?_
  intro p e s m args below meth c s₁ B hml hex hv
  obtain ⟨rfl, hH0, hK, hSX⟩ := hv
  have hts0 := atoms_spec (ws := (.code yX0_fail cX0_fail 1 none :: UW)) B.pre
  have hts : ∀ w ∈ UW, w.before [vS ad v].toArray s = true := fun w hw => hts0 w (List.mem_cons_of_mem _ hw)
  have hown : s.vm.findClass RX0 = some m.cls := findClass_of_methodNamed B.named
  obtain ⟨⟨sa, h1⟩, -, -, -, h5, h6⟩ := hSX
  have hl := lo_entry ad [v] 1 (Nat.le_refl _)
  have hl : lo ad ((lg_sl [vS ad v] ++ List.replicate (1 - (lg_sl [vS ad v]).length) Slot.unset).toArray) [some v] := hl
  rw [lg_entry_eq]
  generalize (lg_sl [vS ad v] ++ List.replicate (1 - (lg_sl [vS ad v]).length) Slot.unset).toArray = ls at hl ⊢
  exact vx_throwS (names := ["java/lang/RuntimeException", "java/lang/Exception"]) (ic := 59) (sa := sa) (A := A0) B.exec B.bytes hst hown (by decide +kernel) (by decide +kernel) (hts _ uw_839) (hts _ uw_22) h1 (vx_hat2 hts hK.2 vxU_in vxU_no) (by decide +kernel) h5 h6 va_S.rf (hl.1.trans hml.symm) dX0_fail_0 dX0_fail_3 dX0_fail_4 dX0_fail_6 dX0_fail_9 (fun x hx => (hex x hx).elim) (Nat.le_of_ble_eq_true rfl) (Nat.le_of_ble_eq_true rfl) (Nat.le_of_ble_eq_true rfl) (Nat.le_of_ble_eq_true rfl) B.notSynchronized (fun t _ h2 h3 => ⟨rfl, h2, h3⟩) (fun z hz => by cases hz) (Nat.le_of_ble_eq_true rfl) (Nat.le_of_ble_eq_true rfl)
