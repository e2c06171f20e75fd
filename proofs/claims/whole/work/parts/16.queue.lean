section
variable {p : Program} {l : Launch} {e : Env} {R : Room} {s : State} {m : MethodId} {args : Array Value} {below : List Frame} {meth : Method} {c : Code} {H : Heap} {locs : List Loc} {cells slots : Nat} {Q : State → Prop} {cc : ByteArray} {pc : Nat} {ls : Array Slot} {rest : List Value} {D : va_G} {cy : ClassId × ClassId × ClassId × ClassId} {A : Nat → Prop} {ad : Nat → Nat} {V : Vt} {S : Me} {PL : List (Option (Int ⊕ Option Nat))}
set_option maxHeartbeats 4000000 in
set_option maxRecDepth 100000 in
theorem gv_7_50 (C : Cx p s m args meth c cc RX7 D cy A) (G : Gy D cy A s.heap ad V S H locs) (hlo : lo ad ls PL) (hml : c.maxLocals = PL.length) {r : Option Nat} {z : Nat} (hz : r = some z) (hzl : z < V.1) (hA : isA (V.2.1 z)) {Qi : Int → Me → Prop} (h : PV_isFence V z S Qi) (hR : 2 ≤ R.frames ∧ 40 ≤ R.locals) (hRc : cells ≤ R.cells ∧ slots ≤ R.slots) (hW : (rest.map fun v => v.category).sum ≤ 8) (hdg : decode cc pc = .ok (.invokevirtual 50, 3)) (kk : ∀ (x : Int) (S' : Me) (H1 : Heap) (locs1 : List Loc), rng x → Qi x S' → Gy D cy A s.heap ad V S' H1 locs1 → W p l e R s m args below meth c H1 locs1 cells slots Q (F0 m (pc + 3) ls (vI x :: rest))) : W p l e R s m args below meth c H locs cells slots Q (F0 m pc ls (vR ad r :: rest)) := by
  subst hz
  have hdc : va_Decl s ⟨"RowBank$Ask", "isFence", "()Z"⟩ := va_Decl.of (C.2.2.2.1 _ uw_371) (C.2.2.2.1 _ uw_378)
  unfold PV_isFence at h
  rcases hA with t | t | t | t | t
  · exact gx_callU (x := yX0_isFence) (owner := "RowBank$Ask") C G hlo hml (c_X0_isFence l D cy ad hzl (by omega) h) rfl hzl (by rw [t]; rfl) (by rw [t]; decide) uw_378 uw_370 uw_372 hdc uw_371 uw_373 uw_10 hd_v_isFence ⟨Nat.le_trans (Nat.le_of_ble_eq_true rfl) hR.1, Nat.le_trans (Nat.le_of_ble_eq_true rfl) hR.2⟩ hRc rfl rfl hW hdg (kkI kk)
  · exact gx_callU (x := yX0_isFence) (owner := "RowBank$Ask") C G hlo hml (c_X0_isFence l D cy ad hzl (by omega) h) rfl hzl (by rw [t]; rfl) (by rw [t]; decide) uw_378 uw_370 uw_372 hdc uw_371 uw_374 uw_10 hd_v_isFence ⟨Nat.le_trans (Nat.le_of_ble_eq_true rfl) hR.1, Nat.le_trans (Nat.le_of_ble_eq_true rfl) hR.2⟩ hRc rfl rfl hW hdg (kkI kk)
  · exact gx_callU (x := yX0_isFence) (owner := "RowBank$Ask") C G hlo hml (c_X0_isFence l D cy ad hzl (by omega) h) rfl hzl (by rw [t]; rfl) (by rw [t]; decide) uw_378 uw_370 uw_372 hdc uw_371 uw_375 uw_10 hd_v_isFence ⟨Nat.le_trans (Nat.le_of_ble_eq_true rfl) hR.1, Nat.le_trans (Nat.le_of_ble_eq_true rfl) hR.2⟩ hRc rfl rfl hW hdg (kkI kk)
  · exact gx_callU (x := yX0_isFence) (owner := "RowBank$Ask") C G hlo hml (c_X0_isFence l D cy ad hzl (by omega) h) rfl hzl (by rw [t]; rfl) (by rw [t]; decide) uw_378 uw_370 uw_372 hdc uw_371 uw_376 uw_10 hd_v_isFence ⟨Nat.le_trans (Nat.le_of_ble_eq_true rfl) hR.1, Nat.le_trans (Nat.le_of_ble_eq_true rfl) hR.2⟩ hRc rfl rfl hW hdg (kkI kk)
  · exact gx_callU (x := yX0_isFence) (owner := "RowBank$Ask") C G hlo hml (c_X0_isFence l D cy ad hzl (by omega) h) rfl hzl (by rw [t]; rfl) (by rw [t]; decide) uw_378 uw_370 uw_372 hdc uw_371 uw_377 uw_10 hd_v_isFence ⟨Nat.le_trans (Nat.le_of_ble_eq_true rfl) hR.1, Nat.le_trans (Nat.le_of_ble_eq_true rfl) hR.2⟩ hRc rfl rfl hW hdg (kkI kk)
set_option maxHeartbeats 4000000 in
set_option maxRecDepth 100000 in
theorem gv_7_77 (C : Cx p s m args meth c cc RX7 D cy A) (G : Gy D cy A s.heap ad V S H locs) (hlo : lo ad ls PL) (hml : c.maxLocals = PL.length) {r : Option Nat} {z : Nat} (hz : r = some z) (hzl : z < V.1) (hA : isA (V.2.1 z)) {x1 : Option Nat} (r1 : ∀ z, x1 = some z → z < V.1) {Qi : Int → Me → Prop} (h : PV_clashesWith V z x1 S Qi) (hR : 2 ≤ R.frames ∧ 41 ≤ R.locals) (hRc : cells ≤ R.cells ∧ slots ≤ R.slots) (hW : (rest.map fun v => v.category).sum ≤ 8) (hdg : decode cc pc = .ok (.invokevirtual 77, 3)) (kk : ∀ (x : Int) (S' : Me) (H1 : Heap) (locs1 : List Loc), rng x → Qi x S' → Gy D cy A s.heap ad V S' H1 locs1 → W p l e R s m args below meth c H1 locs1 cells slots Q (F0 m (pc + 3) ls (vI x :: rest))) : W p l e R s m args below meth c H locs cells slots Q (F0 m pc ls (vR ad x1 :: vR ad r :: rest)) := by
  subst hz
  have hdc : va_Decl s ⟨"RowBank$Ask", "clashesWith", "(LRowBank$Ask;)Z"⟩ := va_Decl.of (C.2.2.2.1 _ uw_569) (C.2.2.2.1 _ uw_576)
  unfold PV_clashesWith at h
  rcases hA with t | t | t | t | t
  · exact gx_callU (x := yX0_clashesWith) (owner := "RowBank$Ask") C G hlo hml (c_X0_clashesWith l D cy ad hzl (by omega) r1 h) rfl hzl (by rw [t]; rfl) (by rw [t]; decide) uw_576 uw_568 uw_570 hdc uw_569 uw_571 uw_10 hd_v_clashesWith ⟨Nat.le_trans (Nat.le_of_ble_eq_true rfl) hR.1, Nat.le_trans (Nat.le_of_ble_eq_true rfl) hR.2⟩ hRc rfl rfl hW hdg (kkI kk)
  · exact gx_callU (x := yX0_clashesWith) (owner := "RowBank$Ask") C G hlo hml (c_X0_clashesWith l D cy ad hzl (by omega) r1 h) rfl hzl (by rw [t]; rfl) (by rw [t]; decide) uw_576 uw_568 uw_570 hdc uw_569 uw_572 uw_10 hd_v_clashesWith ⟨Nat.le_trans (Nat.le_of_ble_eq_true rfl) hR.1, Nat.le_trans (Nat.le_of_ble_eq_true rfl) hR.2⟩ hRc rfl rfl hW hdg (kkI kk)
  · exact gx_callU (x := yX0_clashesWith) (owner := "RowBank$Ask") C G hlo hml (c_X0_clashesWith l D cy ad hzl (by omega) r1 h) rfl hzl (by rw [t]; rfl) (by rw [t]; decide) uw_576 uw_568 uw_570 hdc uw_569 uw_573 uw_10 hd_v_clashesWith ⟨Nat.le_trans (Nat.le_of_ble_eq_true rfl) hR.1, Nat.le_trans (Nat.le_of_ble_eq_true rfl) hR.2⟩ hRc rfl rfl hW hdg (kkI kk)
  · exact gx_callU (x := yX0_clashesWith) (owner := "RowBank$Ask") C G hlo hml (c_X0_clashesWith l D cy ad hzl (by omega) r1 h) rfl hzl (by rw [t]; rfl) (by rw [t]; decide) uw_576 uw_568 uw_570 hdc uw_569 uw_574 uw_10 hd_v_clashesWith ⟨Nat.le_trans (Nat.le_of_ble_eq_true rfl) hR.1, Nat.le_trans (Nat.le_of_ble_eq_true rfl) hR.2⟩ hRc rfl rfl hW hdg (kkI kk)
  · exact gx_callU (x := yX0_clashesWith) (owner := "RowBank$Ask") C G hlo hml (c_X0_clashesWith l D cy ad hzl (by omega) r1 h) rfl hzl (by rw [t]; rfl) (by rw [t]; decide) uw_576 uw_568 uw_570 hdc uw_569 uw_575 uw_10 hd_v_clashesWith ⟨Nat.le_trans (Nat.le_of_ble_eq_true rfl) hR.1, Nat.le_trans (Nat.le_of_ble_eq_true rfl) hR.2⟩ hRc rfl rfl hW hdg (kkI kk)
set_option maxHeartbeats 4000000 in
set_option maxRecDepth 100000 in
theorem gv_7_115 (C : Cx p s m args meth c cc RX7 D cy A) (G : Gy D cy A s.heap ad V S H locs) (hlo : lo ad ls PL) (hml : c.maxLocals = PL.length) {r : Option Nat} {z : Nat} (hz : r = some z) (hzl : z < V.1) (hA : isA (V.2.1 z)) {x1 : Int} (r1 : rng x1) {Qi : Int → Me → Prop} (h : PV_answerFrom V z x1 S Qi) (hR : 1 ≤ R.frames ∧ 21 ≤ R.locals) (hRc : cells ≤ R.cells ∧ slots ≤ R.slots) (hW : (rest.map fun v => v.category).sum ≤ 8) (hdg : decode cc pc = .ok (.invokevirtual 115, 3)) (kk : ∀ (x : Int) (S' : Me) (H1 : Heap) (locs1 : List Loc), rng x → Qi x S' → Gy D cy A s.heap ad V S' H1 locs1 → W p l e R s m args below meth c H1 locs1 cells slots Q (F0 m (pc + 3) ls (vI x :: rest))) : W p l e R s m args below meth c H locs cells slots Q (F0 m pc ls (vI x1 :: vR ad r :: rest)) := by
  subst hz
  have hdc : va_Decl s ⟨"RowBank$Ask", "answerFrom", "(I)I"⟩ := va_Decl.of (C.2.2.2.1 _ uw_624) (C.2.2.2.1 _ uw_635)
  unfold PV_answerFrom at h
  rcases hA with t | t | t | t | t
  · exact gx_callU (x := yX0_answerFrom) (owner := "RowBank$Ask") C G hlo hml (c_X0_answerFrom l D cy ad hzl (by omega) r1 (h.1 t)) rfl hzl (by rw [t]; rfl) (by rw [t]; decide) uw_635 uw_735 uw_625 hdc uw_624 uw_626 uw_10 hd_v_answerFrom ⟨Nat.le_trans (Nat.le_of_ble_eq_true rfl) hR.1, Nat.le_trans (Nat.le_of_ble_eq_true rfl) hR.2⟩ hRc rfl rfl hW hdg (kkI kk)
  · exact gx_callU (x := yX0_answerFrom) (owner := "RowBank$Ask") C G hlo hml (c_X0_answerFrom l D cy ad hzl (by omega) r1 (h.2.1 t)) rfl hzl (by rw [t]; rfl) (by rw [t]; decide) uw_635 uw_735 uw_625 hdc uw_624 uw_627 uw_10 hd_v_answerFrom ⟨Nat.le_trans (Nat.le_of_ble_eq_true rfl) hR.1, Nat.le_trans (Nat.le_of_ble_eq_true rfl) hR.2⟩ hRc rfl rfl hW hdg (kkI kk)
  · exact gx_callU (x := yX0_answerFrom) (owner := "RowBank$Ask") C G hlo hml (c_X6_answerFrom l D cy ad hzl t r1 (h.2.2.1 t)) rfl hzl (by rw [t]; rfl) (by rw [t]; decide) uw_630 uw_735 uw_625 hdc uw_629 uw_628 uw_11 hd_v_answerFrom ⟨Nat.le_trans (Nat.le_of_ble_eq_true rfl) hR.1, Nat.le_trans (Nat.le_of_ble_eq_true rfl) hR.2⟩ hRc rfl rfl hW hdg (kkI kk)
  · exact gx_callU (x := yX0_answerFrom) (owner := "RowBank$Ask") C G hlo hml (c_X9_answerFrom l D cy ad hzl t r1 (h.2.2.2.1 t)) rfl hzl (by rw [t]; rfl) (by rw [t]; decide) uw_633 uw_735 uw_625 hdc uw_632 uw_631 uw_14 hd_v_answerFrom ⟨Nat.le_trans (Nat.le_of_ble_eq_true rfl) hR.1, Nat.le_trans (Nat.le_of_ble_eq_true rfl) hR.2⟩ hRc rfl rfl hW hdg (kkI kk)
  · exact gx_callU (x := yX0_answerFrom) (owner := "RowBank$Ask") C G hlo hml (c_X0_answerFrom l D cy ad hzl (by omega) r1 (h.2.2.2.2 t)) rfl hzl (by rw [t]; rfl) (by rw [t]; decide) uw_635 uw_735 uw_625 hdc uw_624 uw_634 uw_10 hd_v_answerFrom ⟨Nat.le_trans (Nat.le_of_ble_eq_true rfl) hR.1, Nat.le_trans (Nat.le_of_ble_eq_true rfl) hR.2⟩ hRc rfl rfl hW hdg (kkI kk)
set_option maxHeartbeats 4000000 in
set_option maxRecDepth 100000 in
theorem gv_7_122 (C : Cx p s m args meth c cc RX7 D cy A) (G : Gy D cy A s.heap ad V S H locs) (hlo : lo ad ls PL) (hml : c.maxLocals = PL.length) {r : Option Nat} {z : Nat} (hz : r = some z) (hzl : z < V.1) (hA : isA (V.2.1 z)) {x1 : Int} (r1 : rng x1) {Qi : Int → Me → Prop} (h : PV_octetAfter V z x1 S Qi) (hR : 1 ≤ R.frames ∧ 21 ≤ R.locals) (hRc : cells ≤ R.cells ∧ slots ≤ R.slots) (hW : (rest.map fun v => v.category).sum ≤ 8) (hdg : decode cc pc = .ok (.invokevirtual 122, 3)) (kk : ∀ (x : Int) (S' : Me) (H1 : Heap) (locs1 : List Loc), rng x → Qi x S' → Gy D cy A s.heap ad V S' H1 locs1 → W p l e R s m args below meth c H1 locs1 cells slots Q (F0 m (pc + 3) ls (vI x :: rest))) : W p l e R s m args below meth c H locs cells slots Q (F0 m pc ls (vI x1 :: vR ad r :: rest)) := by
  subst hz
  have hdc : va_Decl s ⟨"RowBank$Ask", "octetAfter", "(I)I"⟩ := va_Decl.of (C.2.2.2.1 _ uw_637) (C.2.2.2.1 _ uw_648)
  unfold PV_octetAfter at h
  rcases hA with t | t | t | t | t
  · exact gx_callU (x := yX0_octetAfter) (owner := "RowBank$Ask") C G hlo hml (c_X0_octetAfter l D cy ad hzl (by omega) r1 (h.1 t)) rfl hzl (by rw [t]; rfl) (by rw [t]; decide) uw_648 uw_736 uw_638 hdc uw_637 uw_639 uw_10 hd_v_octetAfter ⟨Nat.le_trans (Nat.le_of_ble_eq_true rfl) hR.1, Nat.le_trans (Nat.le_of_ble_eq_true rfl) hR.2⟩ hRc rfl rfl hW hdg (kkI kk)
  · exact gx_callU (x := yX0_octetAfter) (owner := "RowBank$Ask") C G hlo hml (c_X3_octetAfter l D cy ad hzl t r1 (h.2.1 t)) rfl hzl (by rw [t]; rfl) (by rw [t]; decide) uw_642 uw_736 uw_638 hdc uw_641 uw_640 uw_13 hd_v_octetAfter ⟨Nat.le_trans (Nat.le_of_ble_eq_true rfl) hR.1, Nat.le_trans (Nat.le_of_ble_eq_true rfl) hR.2⟩ hRc rfl rfl hW hdg (kkI kk)
  · exact gx_callU (x := yX0_octetAfter) (owner := "RowBank$Ask") C G hlo hml (c_X0_octetAfter l D cy ad hzl (by omega) r1 (h.2.2.1 t)) rfl hzl (by rw [t]; rfl) (by rw [t]; decide) uw_648 uw_736 uw_638 hdc uw_637 uw_643 uw_10 hd_v_octetAfter ⟨Nat.le_trans (Nat.le_of_ble_eq_true rfl) hR.1, Nat.le_trans (Nat.le_of_ble_eq_true rfl) hR.2⟩ hRc rfl rfl hW hdg (kkI kk)
  · exact gx_callU (x := yX0_octetAfter) (owner := "RowBank$Ask") C G hlo hml (c_X10_octetAfter l D cy ad hzl (by omega) r1 (h.2.2.2.1 t)) rfl hzl (by rw [t]; rfl) (by rw [t]; decide) uw_646 uw_736 uw_638 hdc uw_645 uw_644 uw_12 hd_v_octetAfter ⟨Nat.le_trans (Nat.le_of_ble_eq_true rfl) hR.1, Nat.le_trans (Nat.le_of_ble_eq_true rfl) hR.2⟩ hRc rfl rfl hW hdg (kkI kk)
  · exact gx_callU (x := yX0_octetAfter) (owner := "RowBank$Ask") C G hlo hml (c_X10_octetAfter l D cy ad hzl (by omega) r1 (h.2.2.2.2 t)) rfl hzl (by rw [t]; rfl) (by rw [t]; decide) uw_646 uw_736 uw_638 hdc uw_645 uw_647 uw_12 hd_v_octetAfter ⟨Nat.le_trans (Nat.le_of_ble_eq_true rfl) hR.1, Nat.le_trans (Nat.le_of_ble_eq_true rfl) hR.2⟩ hRc rfl rfl hW hdg (kkI kk)
end
def B_X7_find_12 (V : Vt) (o : Nat) (x1 : Int) (S : Me) (Q : Option Nat → Me → Prop) : Prop := Q none S
def PT_X7_find (V : Vt) (o : Nat) (x1 : Int) (S : Me) (Q : Option Nat → Me → Prop) : Prop := ((x1 < 0 → B_X7_find_12 V o x1 S Q) ∧ (¬ x1 < 0 → ((x1 < (S.1 o 6) → (0 ≤ x1 ∧ x1 < 400) ∧ Q (S.2 (o + 1) (Int.toNat x1)) S) ∧ (¬ x1 < (S.1 o 6) → B_X7_find_12 V o x1 S Q))))
theorem hd_X7_find : yX7_find.cls ≠ "java/lang/invoke/MethodHandle" ∧ yX7_find.cls ≠ "java/lang/invoke/VarHandle" ∧ (parseMethodDescriptor yX7_find.desc).map (fun d => d.parameters.length) = some 1 := by decide +kernel
set_option maxHeartbeats 4000000 in
set_option maxRecDepth 100000 in
theorem c_X7_find (l : Launch) (D : va_G) (cy : ClassId × ClassId × ClassId × ClassId) (ad : Nat → Nat) {V : Vt} {S : Me} {o : Nat} {x1 : Int} (hV : fX7 V o) (rx1 : rng x1) {Q : Option Nat → Me → Prop} (h : PT_X7_find V o x1 S Q) : KM l D cy yX7_find cX7_find 2 (Option.some (Jvm.ClassFile.FieldType.object "RowBank$Ask")) 0 0 ad V S [.inr (some o), .inl x1] (qR Q) := by
  refine KM.of (by decide) rfl (Nat.le_of_ble_eq_true rfl) (own := RX7) (fun p e s m args below meth c A ls H locs eA C hret hml hmn hl G => ?_)
  have hl : lo ad ls [some (.inr (some o)), some (.inl x1)] := hl
  have b12 : ∀ (S : Me) (H : Heap) (locs : List Loc) (ls : Array Slot), lo ad ls [some (.inr (some o)), some (.inl x1)] → Gy D cy A s.heap ad V S H locs → B_X7_find_12 V o x1 S Q → W p l e (rmx 0 0) s m args below meth c H locs 0 0 (qm below D cy ad V A args s (qR Q)) (F0 m 12 ls []) := by
    intro S H locs ls hl G h
    unfold B_X7_find_12 at h
    refine gx_null (ad := ad) C dX7_find_12 ?_
    refine gx_goto (tgt := 22) C dX7_find_13 (by decide) ?_
    exact gx_aret C G hret (Or.inl ⟨_, rfl⟩) vnone h dX7_find_22
  clear eA
  unfold PT_X7_find at h
  refine gx_iload_n C hl dX7_find_0 rfl ?_
  refine gx_if_lt (tgt := 12) C rx1 dX7_find_1 (by decide) (fun c1 => ?_) (fun c1 => ?_)
  · have h := h.1 c1
    exact b12 S H locs ls hl G h
  · have h := h.2 c1
    refine gx_iload_n C hl dX7_find_4 rfl ?_
    refine gx_aload_n C hl dX7_find_5 rfl ?_
    refine gx_getI C G rfl (fX7_o hV) (fo6_6 (fX7_c hV)) uw_159 (fun _ h9 => h9) dX7_find_6 ?_
    have r2 := G.r o 6
    refine gx_icmp_lt (tgt := 16) C rx1 r2 dX7_find_9 (by decide) (fun c3 => ?_) (fun c3 => ?_)
    · have h := h.1 c3
      refine gx_aload_n C hl dX7_find_16 rfl ?_
      refine gx_getF C G rfl (fX7_o hV) (fo6_0 (fX7_c hV)) (fX7_all hV) uw_151 (fun _ h9 => h9) dX7_find_17 ?_
      refine gx_iload_n C hl dX7_find_20 rfl ?_
      obtain ⟨h4, h⟩ := h
      refine gx_aald C G rfl (fX7_all_l hV) (Or.inl (fX7_all_t hV)) rx1 h4.1 (ixl (fX7_all_n hV) h4.2) dX7_find_21 ?_
      have v5 := G.v (o + 1) (Int.toNat x1)
      exact gx_aret C G hret (Or.inl ⟨_, rfl⟩) v5 h dX7_find_22
    · have h := h.2 c3
      exact b12 S H locs ls hl G h
def B_X7_unlink_36 (V : Vt) (o : Nat) (x1 : Option Nat) (x2 : Option Nat) (S : Me) (Q : Me → Prop) : Prop := (rng ((S.1 o 7) - 1)) ∧ ∀ S3 : Me, S3 = sI S o 7 ((S.1 o 7) - 1) → Q S3
def B_X7_unlink_23 (V : Vt) (o : Nat) (x1 : Option Nat) (x2 : Option Nat) (S : Me) (Q : Me → Prop) : Prop := ((¬ (S.2 o 5) = x1 → B_X7_unlink_36 V o x1 x2 S Q) ∧ ((S.2 o 5) = x1 → ∀ S6 : Me, S6 = sP S o 5 x2 → B_X7_unlink_36 V o x1 x2 S6 Q))
def PT_X7_unlink (V : Vt) (o : Nat) (x1 : Option Nat) (x2 : Option Nat) (S : Me) (Q : Me → Prop) : Prop := ((¬ x2 = none → ∃ z8 : Nat, x1 = some z8 ∧ isA (V.2.1 z8) ∧ ∃ z10 : Nat, x2 = some z10 ∧ isA (V.2.1 z10) ∧ ∀ S11 : Me, S11 = sP S z10 8 (S.2 z8 8) → B_X7_unlink_23 V o x1 x2 S11 Q) ∧ (x2 = none → ∃ z12 : Nat, x1 = some z12 ∧ isA (V.2.1 z12) ∧ ∀ S14 : Me, S14 = sP S o 4 (S.2 z12 8) → B_X7_unlink_23 V o x1 x2 S14 Q))
theorem hd_X7_unlink : yX7_unlink.cls ≠ "java/lang/invoke/MethodHandle" ∧ yX7_unlink.cls ≠ "java/lang/invoke/VarHandle" ∧ (parseMethodDescriptor yX7_unlink.desc).map (fun d => d.parameters.length) = some 2 := by decide +kernel
set_option maxHeartbeats 4000000 in
set_option maxRecDepth 100000 in
theorem c_X7_unlink (l : Launch) (D : va_G) (cy : ClassId × ClassId × ClassId × ClassId) (ad : Nat → Nat) {V : Vt} {S : Me} {o : Nat} {x1 : Option Nat} {x2 : Option Nat} (hV : fX7 V o) (vx1 : ∀ z, x1 = some z → z < V.1) (vx2 : ∀ z, x2 = some z → z < V.1) {Q : Me → Prop} (h : PT_X7_unlink V o x1 x2 S Q) : KM l D cy yX7_unlink cX7_unlink 3 (Option.none : Option Jvm.ClassFile.FieldType) 0 0 ad V S [.inr (some o), .inr x1, .inr x2] (qV Q) := by
  refine KM.of (by decide) rfl (Nat.le_of_ble_eq_true rfl) (own := RX7) (fun p e s m args below meth c A ls H locs eA C hret hml hmn hl G => ?_)
  have hl : lo ad ls [some (.inr (some o)), some (.inr x1), some (.inr x2)] := hl
  have b36 : ∀ (S : Me) (H : Heap) (locs : List Loc) (ls : Array Slot), lo ad ls [some (.inr (some o)), some (.inr x1), some (.inr x2)] → Gy D cy A s.heap ad V S H locs → B_X7_unlink_36 V o x1 x2 S Q → W p l e (rmx 0 0) s m args below meth c H locs 0 0 (qm below D cy ad V A args s (qV Q)) (F0 m 36 ls []) := by
    intro S H locs ls hl G h
    unfold B_X7_unlink_36 at h
    refine gx_aload_n C hl dX7_unlink_36 rfl ?_
    refine gx_dupR C dX7_unlink_37 ?_
    refine gx_getI C G rfl (fX7_o hV) (fo6_7 (fX7_c hV)) uw_161 (fun _ h9 => h9) dX7_unlink_38 ?_
    have r1 := G.r o 7
    refine gx_iconst C dX7_unlink_41 ?_
    obtain ⟨h2, h⟩ := h
    refine gx_isub C dX7_unlink_42 ?_
    refine gx_putI C G rfl (fX7_o hV) (fo6_7 (fX7_c hV)) h2 uw_161 (fun _ h9 => h9) dX7_unlink_43 (fun H locs G => ?_)
    obtain ⟨S3, eS3⟩ : ∃ q9 : Me, q9 = sI S o 7 ((S.1 o 7) - 1) := ⟨_, rfl⟩
    have h := h S3 eS3
    rw [← eS3] at G
    exact gx_vret C G hret h dX7_unlink_46
  have b23 : ∀ (S : Me) (H : Heap) (locs : List Loc) (ls : Array Slot), lo ad ls [some (.inr (some o)), some (.inr x1), some (.inr x2)] → Gy D cy A s.heap ad V S H locs → B_X7_unlink_23 V o x1 x2 S Q → W p l e (rmx 0 0) s m args below meth c H locs 0 0 (qm below D cy ad V A args s (qV Q)) (F0 m 23 ls []) := by
    intro S H locs ls hl G h
    unfold B_X7_unlink_23 at h
    refine gx_aload_n C hl dX7_unlink_23 rfl ?_
    refine gx_getP C G rfl (fX7_o hV) (fo6_5 (fX7_c hV)) uw_158 (fun _ h9 => h9) dX7_unlink_24 ?_
    have v4 := G.v o 5
    refine gx_aload_n C hl dX7_unlink_27 rfl ?_
    refine gx_acmp_ne (tgt := 36) C G v4 vx1 dX7_unlink_28 (by decide) (fun c5 => ?_) (fun c5 => ?_)
    · have h := h.1 c5
      exact b36 S H locs ls hl G h
    · have h := h.2 c5
      refine gx_aload_n C hl dX7_unlink_31 rfl ?_
      refine gx_aload_n C hl dX7_unlink_32 rfl ?_
      refine gx_putP C G rfl (fX7_o hV) (fo6_5 (fX7_c hV)) (Or.inl ⟨_, rfl⟩) vx2 uw_158 (fun _ h9 => h9) dX7_unlink_33 (fun H locs G => ?_)
      obtain ⟨S6, eS6⟩ : ∃ q9 : Me, q9 = sP S o 5 x2 := ⟨_, rfl⟩
      have h := h S6 eS6
      rw [← eS6] at G
      exact b36 S6 H locs ls hl G h
  clear eA
  unfold PT_X7_unlink at h
  refine gx_aload_n C hl dX7_unlink_0 rfl ?_
  refine gx_ifnonnull (tgt := 15) C dX7_unlink_1 (by decide) (fun c7 => ?_) (fun c7 => ?_)
  · have h := h.1 c7
    refine gx_aload_n C hl dX7_unlink_15 rfl ?_
    refine gx_aload_n C hl dX7_unlink_16 rfl ?_
    obtain ⟨z8, hz8, tz8, h⟩ := h
    have lz8 := (vx1 z8 hz8)
    refine gx_getP C G hz8 lz8 (foA_8 tz8) uw_337 (fun _ h9 => h9) dX7_unlink_17 ?_
    have v9 := G.v z8 8
    obtain ⟨z10, hz10, tz10, h⟩ := h
    have lz10 := (vx2 z10 hz10)
    refine gx_putP C G hz10 lz10 (foA_8 tz10) (Or.inl ⟨_, rfl⟩) v9 uw_337 (fun _ h9 => h9) dX7_unlink_20 (fun H locs G => ?_)
    obtain ⟨S11, eS11⟩ : ∃ q9 : Me, q9 = sP S z10 8 (S.2 z8 8) := ⟨_, rfl⟩
    have h := h S11 eS11
    rw [← eS11] at G
    exact b23 S11 H locs ls hl G h
  · have h := h.2 c7
    refine gx_aload_n C hl dX7_unlink_4 rfl ?_
    refine gx_aload_n C hl dX7_unlink_5 rfl ?_
    obtain ⟨z12, hz12, tz12, h⟩ := h
    have lz12 := (vx1 z12 hz12)
    refine gx_getP C G hz12 lz12 (foA_8 tz12) uw_337 (fun _ h9 => h9) dX7_unlink_6 ?_
    have v13 := G.v z12 8
    refine gx_putP C G rfl (fX7_o hV) (fo6_4 (fX7_c hV)) (Or.inl ⟨_, rfl⟩) v13 uw_157 (fun _ h9 => h9) dX7_unlink_9 (fun H locs G => ?_)
    obtain ⟨S14, eS14⟩ : ∃ q9 : Me, q9 = sP S o 4 (S.2 z12 8) := ⟨_, rfl⟩
    have h := h S14 eS14
    rw [← eS14] at G
    refine gx_goto (tgt := 23) C dX7_unlink_12 (by decide) ?_
    exact b23 S14 H locs ls hl G h
def B_X7_add_19 (V : Vt) (o : Nat) (x1 : Option Nat) (S : Me) (Q : Int → Me → Prop) : Prop := Q (-2) S
def B_X7_add_61 (V : Vt) (o : Nat) (x1 : Option Nat) (S : Me) (Q : Int → Me → Prop) : Prop := ∀ S1 : Me, S1 = sP S o 5 x1 → (rng ((S1.1 o 7) + 1)) ∧ ∀ S4 : Me, S4 = sI S1 o 7 ((S1.1 o 7) + 1) → (0 ≤ (S4.1 o 6) ∧ (S4.1 o 6) < 400) ∧ ∃ z7 : Nat, x1 = some z7 ∧ isA (V.2.1 z7) ∧ ∀ S8 : Me, S8 = sP S4 (o + 1) (Int.toNat (S4.1 o 6)) x1 → (rng ((S8.1 o 6) + 1)) ∧ ∀ S11 : Me, S11 = sI S8 o 6 ((S8.1 o 6) + 1) → Q (S11.1 z7 0) S11
def B_X7_add_39 (V : Vt) (o : Nat) (x1 : Option Nat) (S : Me) (Q : Int → Me → Prop) : Prop := ((¬ (S.2 o 5) = none → ∃ z15 : Nat, (S.2 o 5) = some z15 ∧ isA (V.2.1 z15) ∧ ∀ S16 : Me, S16 = sP S z15 8 x1 → B_X7_add_61 V o x1 S16 Q) ∧ ((S.2 o 5) = none → ∀ S17 : Me, S17 = sP S o 4 x1 → B_X7_add_61 V o x1 S17 Q))
def PT_X7_add (V : Vt) (o : Nat) (x1 : Option Nat) (S : Me) (Q : Int → Me → Prop) : Prop := ((12 ≤ (S.1 o 7) → B_X7_add_19 V o x1 S Q) ∧ (¬ 12 ≤ (S.1 o 7) → (((S.1 o 6) < 400 → ∃ z24 : Nat, x1 = some z24 ∧ isA (V.2.1 z24) ∧ PV_isFence V z24 S (fun t23 S22 => ((t23 = 0 → B_X7_add_39 V o x1 S22 Q) ∧ (¬ t23 = 0 → (rng ((S22.1 o 8) + 1)) ∧ ∀ S28 : Me, S28 = sI S22 o 8 ((S22.1 o 8) + 1) → B_X7_add_39 V o x1 S28 Q)))) ∧ (¬ (S.1 o 6) < 400 → B_X7_add_19 V o x1 S Q))))
theorem hd_X7_add : yX7_add.cls ≠ "java/lang/invoke/MethodHandle" ∧ yX7_add.cls ≠ "java/lang/invoke/VarHandle" ∧ (parseMethodDescriptor yX7_add.desc).map (fun d => d.parameters.length) = some 1 := by decide +kernel
set_option maxHeartbeats 4000000 in
set_option maxRecDepth 100000 in
theorem c_X7_add (l : Launch) (D : va_G) (cy : ClassId × ClassId × ClassId × ClassId) (ad : Nat → Nat) {V : Vt} {S : Me} {o : Nat} {x1 : Option Nat} (hV : fX7 V o) (vx1 : ∀ z, x1 = some z → z < V.1) {Q : Int → Me → Prop} (h : PT_X7_add V o x1 S Q) : KM l D cy yX7_add cX7_add 3 (Option.some Jvm.ClassFile.FieldType.int) 2 40 ad V S [.inr (some o), .inr x1] (qI Q) := by
  refine KM.of (by decide) rfl (Nat.le_of_ble_eq_true rfl) (own := RX7) (fun p e s m args below meth c A ls H locs eA C hret hml hmn hl G => ?_)
  have hl : lo ad ls [some (.inr (some o)), some (.inr x1), none] := hl
  have b19 : ∀ (S : Me) (H : Heap) (locs : List Loc) (ls : Array Slot), lo ad ls [some (.inr (some o)), some (.inr x1), none] → Gy D cy A s.heap ad V S H locs → B_X7_add_19 V o x1 S Q → W p l e (rmx 2 40) s m args below meth c H locs 0 0 (qm below D cy ad V A args s (qI Q)) (F0 m 19 ls []) := by
    intro S H locs ls hl G h
    unfold B_X7_add_19 at h
    refine gx_bipush C dX7_add_19 (by decide) ?_
    exact gx_iret C G hret (show rng (-2) by decide) h dX7_add_21
  have b61 : ∀ (S : Me) (H : Heap) (locs : List Loc) (ls : Array Slot), lo ad ls [some (.inr (some o)), some (.inr x1), none] → Gy D cy A s.heap ad V S H locs → B_X7_add_61 V o x1 S Q → W p l e (rmx 2 40) s m args below meth c H locs 0 0 (qm below D cy ad V A args s (qI Q)) (F0 m 61 ls []) := by
    intro S H locs ls hl G h
    unfold B_X7_add_61 at h
    refine gx_aload_n C hl dX7_add_61 rfl ?_
    refine gx_aload_n C hl dX7_add_62 rfl ?_
    refine gx_putP C G rfl (fX7_o hV) (fo6_5 (fX7_c hV)) (Or.inl ⟨_, rfl⟩) vx1 uw_158 (fun _ h9 => h9) dX7_add_63 (fun H locs G => ?_)
    obtain ⟨S1, eS1⟩ : ∃ q9 : Me, q9 = sP S o 5 x1 := ⟨_, rfl⟩
    have h := h S1 eS1
    rw [← eS1] at G
    refine gx_aload_n C hl dX7_add_66 rfl ?_
    refine gx_dupR C dX7_add_67 ?_
    refine gx_getI C G rfl (fX7_o hV) (fo6_7 (fX7_c hV)) uw_161 (fun _ h9 => h9) dX7_add_68 ?_
    have r2 := G.r o 7
    refine gx_iconst C dX7_add_71 ?_
    obtain ⟨h3, h⟩ := h
    refine gx_iadd C dX7_add_72 ?_
    refine gx_putI C G rfl (fX7_o hV) (fo6_7 (fX7_c hV)) h3 uw_161 (fun _ h9 => h9) dX7_add_73 (fun H locs G => ?_)
    obtain ⟨S4, eS4⟩ : ∃ q9 : Me, q9 = sI S1 o 7 ((S1.1 o 7) + 1) := ⟨_, rfl⟩
    have h := h S4 eS4
    rw [← eS4] at G
    refine gx_aload_n C hl dX7_add_76 rfl ?_
    refine gx_getF C G rfl (fX7_o hV) (fo6_0 (fX7_c hV)) (fX7_all hV) uw_151 (fun _ h9 => h9) dX7_add_77 ?_
    refine gx_aload_n C hl dX7_add_80 rfl ?_
    refine gx_getI C G rfl (fX7_o hV) (fo6_6 (fX7_c hV)) uw_159 (fun _ h9 => h9) dX7_add_81 ?_
    have r5 := G.r o 6
    refine gx_aload_n C hl dX7_add_84 rfl ?_
    obtain ⟨h6, h⟩ := h
    obtain ⟨z7, hz7, tz7, h⟩ := h
    have lz7 := (vx1 z7 hz7)
    refine gx_aastA C G rfl (fX7_all_l hV) (fX7_all_t hV) r5 h6.1 (ixl (fX7_all_n hV) h6.2) hz7 lz7 tz7 dX7_add_85 (fun H locs G => ?_)
    obtain ⟨S8, eS8⟩ : ∃ q9 : Me, q9 = sP S4 (o + 1) (Int.toNat (S4.1 o 6)) x1 := ⟨_, rfl⟩
    have h := h S8 eS8
    rw [← eS8] at G
    refine gx_aload_n C hl dX7_add_86 rfl ?_
    refine gx_dupR C dX7_add_87 ?_
    refine gx_getI C G rfl (fX7_o hV) (fo6_6 (fX7_c hV)) uw_159 (fun _ h9 => h9) dX7_add_88 ?_
    have r9 := G.r o 6
    refine gx_iconst C dX7_add_91 ?_
    obtain ⟨h10, h⟩ := h
    refine gx_iadd C dX7_add_92 ?_
    refine gx_putI C G rfl (fX7_o hV) (fo6_6 (fX7_c hV)) h10 uw_159 (fun _ h9 => h9) dX7_add_93 (fun H locs G => ?_)
    obtain ⟨S11, eS11⟩ : ∃ q9 : Me, q9 = sI S8 o 6 ((S8.1 o 6) + 1) := ⟨_, rfl⟩
    have h := h S11 eS11
    rw [← eS11] at G
    refine gx_aload_n C hl dX7_add_96 rfl ?_
    refine gx_getI C G hz7 lz7 (foA_0 tz7) uw_306 (fun _ h9 => h9) dX7_add_97 ?_
    have r12 := G.r z7 0
    exact gx_iret C G hret r12 h dX7_add_100
  have b39 : ∀ (S : Me) (H : Heap) (locs : List Loc) (ls : Array Slot), lo ad ls [some (.inr (some o)), some (.inr x1), none] → Gy D cy A s.heap ad V S H locs → B_X7_add_39 V o x1 S Q → W p l e (rmx 2 40) s m args below meth c H locs 0 0 (qm below D cy ad V A args s (qI Q)) (F0 m 39 ls []) := by
    intro S H locs ls hl G h
    unfold B_X7_add_39 at h
    refine gx_aload_n C hl dX7_add_39 rfl ?_
    refine gx_getP C G rfl (fX7_o hV) (fo6_5 (fX7_c hV)) uw_158 (fun _ h9 => h9) dX7_add_40 ?_
    have v13 := G.v o 5
    refine gx_astore_n C hl dX7_add_43 (Nat.le_of_ble_eq_true rfl) (PL' := [some (.inr (some o)), some (.inr x1), some (.inr (S.2 o 5))]) rfl (fun ls hl => ?_)
    refine gx_aload_n C hl dX7_add_44 rfl ?_
    refine gx_ifnonnull (tgt := 56) C dX7_add_45 (by decide) (fun c14 => ?_) (fun c14 => ?_)
    · have h := h.1 c14
      refine gx_aload_n C hl dX7_add_56 rfl ?_
      refine gx_aload_n C hl dX7_add_57 rfl ?_
      obtain ⟨z15, hz15, tz15, h⟩ := h
      have lz15 := (v13 z15 hz15)
      refine gx_putP C G hz15 lz15 (foA_8 tz15) (Or.inl ⟨_, rfl⟩) vx1 uw_337 (fun _ h9 => h9) dX7_add_58 (fun H locs G => ?_)
      obtain ⟨S16, eS16⟩ : ∃ q9 : Me, q9 = sP S z15 8 x1 := ⟨_, rfl⟩
      have h := h S16 eS16
      rw [← eS16] at G
      exact b61 S16 H locs ls (lo_mask (bs := [true, true, false]) hl rfl rfl) G h
    · have h := h.2 c14
      refine gx_aload_n C hl dX7_add_48 rfl ?_
      refine gx_aload_n C hl dX7_add_49 rfl ?_
      refine gx_putP C G rfl (fX7_o hV) (fo6_4 (fX7_c hV)) (Or.inl ⟨_, rfl⟩) vx1 uw_157 (fun _ h9 => h9) dX7_add_50 (fun H locs G => ?_)
      obtain ⟨S17, eS17⟩ : ∃ q9 : Me, q9 = sP S o 4 x1 := ⟨_, rfl⟩
      have h := h S17 eS17
      rw [← eS17] at G
      refine gx_goto (tgt := 61) C dX7_add_53 (by decide) ?_
      exact b61 S17 H locs ls (lo_mask (bs := [true, true, false]) hl rfl rfl) G h
  clear eA
  unfold PT_X7_add at h
  refine gx_aload_n C hl dX7_add_0 rfl ?_
  refine gx_getI C G rfl (fX7_o hV) (fo6_7 (fX7_c hV)) uw_161 (fun _ h9 => h9) dX7_add_1 ?_
  have r18 := G.r o 7
  refine gx_bipush C dX7_add_4 (by decide) ?_
  refine gx_icmp_ge (tgt := 19) C r18 (show rng 12 by decide) dX7_add_6 (by decide) (fun c19 => ?_) (fun c19 => ?_)
  · have h := h.1 c19
    exact b19 S H locs ls hl G h
  · have h := h.2 c19
    refine gx_aload_n C hl dX7_add_9 rfl ?_
    refine gx_getI C G rfl (fX7_o hV) (fo6_6 (fX7_c hV)) uw_159 (fun _ h9 => h9) dX7_add_10 ?_
    have r20 := G.r o 6
    refine gx_sipush C dX7_add_13 (by decide) ?_
    refine gx_icmp_lt (tgt := 22) C r20 (show rng 400 by decide) dX7_add_16 (by decide) (fun c21 => ?_) (fun c21 => ?_)
    · have h := h.1 c21
      refine gx_aload_n C hl dX7_add_22 rfl ?_
      obtain ⟨z24, hz24, tz24, h⟩ := h
      have lz24 := (vx1 z24 hz24)
      refine gv_7_50 C G hl hml hz24 lz24 tz24 h ⟨Nat.le_of_ble_eq_true rfl, Nat.le_of_ble_eq_true rfl⟩ ⟨Nat.zero_le _, Nat.zero_le _⟩ (hw_le ad [] rfl (Nat.le_of_ble_eq_true rfl)) dX7_add_23 (fun t23 S22 H locs rt23 h G => ?_)
      refine gx_if_eq (tgt := 39) C rt23 dX7_add_26 (by decide) (fun c25 => ?_) (fun c25 => ?_)
      · have h := h.1 c25
        exact b39 S22 H locs ls hl G h
      · have h := h.2 c25
        refine gx_aload_n C hl dX7_add_29 rfl ?_
        refine gx_dupR C dX7_add_30 ?_
        refine gx_getI C G rfl (fX7_o hV) (fo6_8 (fX7_c hV)) uw_163 (fun _ h9 => h9) dX7_add_31 ?_
        have r26 := G.r o 8
        refine gx_iconst C dX7_add_34 ?_
        obtain ⟨h27, h⟩ := h
        refine gx_iadd C dX7_add_35 ?_
        refine gx_putI C G rfl (fX7_o hV) (fo6_8 (fX7_c hV)) h27 uw_163 (fun _ h9 => h9) dX7_add_36 (fun H locs G => ?_)
        obtain ⟨S28, eS28⟩ : ∃ q9 : Me, q9 = sI S22 o 8 ((S22.1 o 8) + 1) := ⟨_, rfl⟩
        have h := h S28 eS28
        rw [← eS28] at G
        exact b39 S28 H locs ls hl G h
    · have h := h.2 c21
      exact b19 S H locs ls hl G h
def B_X7_finishFences_81 (V : Vt) (o : Nat) (x1 : Int) (K10 : Int → Option Nat → Option Nat → Me → Prop) (y2 : Int) (y3 : Option Nat) (y4 : Option Nat) (S : Me) (Q : Me → Prop) : Prop := ∃ z1 : Nat, y4 = some z1 ∧ isA (V.2.1 z1) ∧ K10 y2 y3 (S.2 z1 8) S
def B_X7_finishFences_10 (V : Vt) (o : Nat) (x1 : Int) (Q : Me → Prop) : Nat → (Int → Option Nat → Option Nat → Me → Prop)
  | 0 => fun _ _ _ _ => False
  | n + 1 => fun y2 y3 y4 S => ((y4 = none → Q S) ∧ (¬ y4 = none → ∃ z6 : Nat, y4 = some z6 ∧ isA (V.2.1 z6) ∧ PV_isFence V z6 S (fun t5 S4 => ((¬ t5 = 0 → ((¬ (bAnd (bShr y2 (S4.1 z6 1)) 1) = 1 → ∀ S10 : Me, S10 = sI S4 z6 6 x1 → (rng ((S10.1 o 8) - 1)) ∧ ∀ S13 : Me, S13 = sI S10 o 8 ((S10.1 o 8) - 1) → PT_X7_unlink V o y4 y3 S13 (fun S14 => B_X7_finishFences_81 V o x1 (B_X7_finishFences_10 V o x1 Q n) y2 y3 y4 S14 Q)) ∧ ((bAnd (bShr y2 (S4.1 z6 1)) 1) = 1 → B_X7_finishFences_81 V o x1 (B_X7_finishFences_10 V o x1 Q n) y2 y4 y4 S4 Q))) ∧ (t5 = 0 → B_X7_finishFences_81 V o x1 (B_X7_finishFences_10 V o x1 Q n) (bOr y2 (bShl 1 (S4.1 z6 1))) y4 y4 S4 Q)))))
def PT_X7_finishFences (V : Vt) (o : Nat) (x1 : Int) (S : Me) (Q : Me → Prop) : Prop := (∃ n9 : Nat, B_X7_finishFences_10 V o x1 Q n9 0 none (S.2 o 4) S)
theorem hd_X7_finishFences : yX7_finishFences.cls ≠ "java/lang/invoke/MethodHandle" ∧ yX7_finishFences.cls ≠ "java/lang/invoke/VarHandle" ∧ (parseMethodDescriptor yX7_finishFences.desc).map (fun d => d.parameters.length) = some 1 := by decide +kernel
set_option maxHeartbeats 4000000 in
set_option maxRecDepth 100000 in
theorem c_X7_finishFences (l : Launch) (D : va_G) (cy : ClassId × ClassId × ClassId × ClassId) (ad : Nat → Nat) {V : Vt} {S : Me} {o : Nat} {x1 : Int} (hV : fX7 V o) (rx1 : rng x1) {Q : Me → Prop} (h : PT_X7_finishFences V o x1 S Q) : KM l D cy yX7_finishFences cX7_finishFences 5 (Option.none : Option Jvm.ClassFile.FieldType) 2 40 ad V S [.inr (some o), .inl x1] (qV Q) := by
  refine KM.of (by decide) rfl (Nat.le_of_ble_eq_true rfl) (own := RX7) (fun p e s m args below meth c A ls H locs eA C hret hml hmn hl G => ?_)
  have hl : lo ad ls [some (.inr (some o)), some (.inl x1), none, none, none] := hl
  have b81 : ∀ (K10 : Int → Option Nat → Option Nat → Me → Prop) (hK10 : ∀ (y2 : Int) (y3 : Option Nat) (y4 : Option Nat) (S : Me) (H : Heap) (locs : List Loc) (ls : Array Slot), rng y2 → (∀ z, y3 = some z → z < V.1) → (∀ z, y4 = some z → z < V.1) → lo ad ls [some (.inr (some o)), some (.inl x1), some (.inl y2), some (.inr y3), some (.inr y4)] → Gy D cy A s.heap ad V S H locs → K10 y2 y3 y4 S → W p l e (rmx 2 40) s m args below meth c H locs 0 0 (qm below D cy ad V A args s (qV Q)) (F0 m 10 ls [])) (y2 : Int) (y3 : Option Nat) (y4 : Option Nat) (S : Me) (H : Heap) (locs : List Loc) (ls : Array Slot), rng y2 → (∀ z, y3 = some z → z < V.1) → (∀ z, y4 = some z → z < V.1) → lo ad ls [some (.inr (some o)), some (.inl x1), some (.inl y2), some (.inr y3), some (.inr y4)] → Gy D cy A s.heap ad V S H locs → B_X7_finishFences_81 V o x1 K10 y2 y3 y4 S Q → W p l e (rmx 2 40) s m args below meth c H locs 0 0 (qm below D cy ad V A args s (qV Q)) (F0 m 81 ls []) := by
    intro K10 hK10 y2 y3 y4 S H locs ls ry2 vy3 vy4 hl G h
    unfold B_X7_finishFences_81 at h
    refine gx_aload C hl dX7_finishFences_81 rfl ?_
    obtain ⟨z1, hz1, tz1, h⟩ := h
    have lz1 := (vy4 z1 hz1)
    refine gx_getP C G hz1 lz1 (foA_8 tz1) uw_337 (fun _ h9 => h9) dX7_finishFences_83 ?_
    have v2 := G.v z1 8
    refine gx_astore C hl dX7_finishFences_86 (Nat.le_of_ble_eq_true rfl) (PL' := [some (.inr (some o)), some (.inl x1), some (.inl y2), some (.inr y3), some (.inr (S.2 z1 8))]) rfl (fun ls hl => ?_)
    refine gx_goto (tgt := 10) C dX7_finishFences_88 (by decide) ?_
    exact hK10 y2 y3 (S.2 z1 8) S H locs ls ry2 vy3 v2 hl G h
  have b10 : ∀ (n : Nat) (y2 : Int) (y3 : Option Nat) (y4 : Option Nat) (S : Me) (H : Heap) (locs : List Loc) (ls : Array Slot), rng y2 → (∀ z, y3 = some z → z < V.1) → (∀ z, y4 = some z → z < V.1) → lo ad ls [some (.inr (some o)), some (.inl x1), some (.inl y2), some (.inr y3), some (.inr y4)] → Gy D cy A s.heap ad V S H locs → B_X7_finishFences_10 V o x1 Q n y2 y3 y4 S → W p l e (rmx 2 40) s m args below meth c H locs 0 0 (qm below D cy ad V A args s (qV Q)) (F0 m 10 ls []) := by
    intro n
    induction n with
    | zero =>
      intro y2 y3 y4 S H locs ls ry2 vy3 vy4 hl G h
      exact absurd h id
    | succ n ih =>
      intro y2 y3 y4 S H locs ls ry2 vy3 vy4 hl G h
      rw [B_X7_finishFences_10] at h
      refine gx_aload C hl dX7_finishFences_10 rfl ?_
      refine gx_ifnull (tgt := 91) C dX7_finishFences_12 (by decide) (fun c3 => ?_) (fun c3 => ?_)
      · have h := h.1 c3
        exact gx_vret C G hret h dX7_finishFences_91
      · have h := h.2 c3
        refine gx_aload C hl dX7_finishFences_15 rfl ?_
        obtain ⟨z6, hz6, tz6, h⟩ := h
        have lz6 := (vy4 z6 hz6)
        refine gv_7_50 C G hl hml hz6 lz6 tz6 h ⟨Nat.le_of_ble_eq_true rfl, Nat.le_of_ble_eq_true rfl⟩ ⟨Nat.zero_le _, Nat.zero_le _⟩ (hw_le ad [] rfl (Nat.le_of_ble_eq_true rfl)) dX7_finishFences_17 (fun t5 S4 H locs rt5 h G => ?_)
        refine gx_if_ne (tgt := 39) C rt5 dX7_finishFences_20 (by decide) (fun c7 => ?_) (fun c7 => ?_)
        · have h := h.1 c7
          refine gx_iload_n C hl dX7_finishFences_39 rfl ?_
          refine gx_aload C hl dX7_finishFences_40 rfl ?_
          refine gx_getI C G hz6 lz6 (foA_1 tz6) uw_310 (fun _ h9 => h9) dX7_finishFences_42 ?_
          have r8 := G.r z6 1
          refine gx_ishr C dX7_finishFences_45 ?_
          refine gx_iconst C dX7_finishFences_46 ?_
          refine gx_iand C dX7_finishFences_47 ?_
          refine gx_iconst C dX7_finishFences_48 ?_
          refine gx_icmp_ne (tgt := 58) C (rg_o _) (show rng 1 by decide) dX7_finishFences_49 (by decide) (fun c9 => ?_) (fun c9 => ?_)
          · have h := h.1 c9
            refine gx_aload C hl dX7_finishFences_58 rfl ?_
            refine gx_iload_n C hl dX7_finishFences_60 rfl ?_
            refine gx_putI C G hz6 lz6 (foA_6 tz6) rx1 uw_330 (fun _ h9 => h9) dX7_finishFences_61 (fun H locs G => ?_)
            obtain ⟨S10, eS10⟩ : ∃ q9 : Me, q9 = sI S4 z6 6 x1 := ⟨_, rfl⟩
            have h := h S10 eS10
            rw [← eS10] at G
            refine gx_aload_n C hl dX7_finishFences_64 rfl ?_
            refine gx_dupR C dX7_finishFences_65 ?_
            refine gx_getI C G rfl (fX7_o hV) (fo6_8 (fX7_c hV)) uw_163 (fun _ h9 => h9) dX7_finishFences_66 ?_
            have r11 := G.r o 8
            refine gx_iconst C dX7_finishFences_69 ?_
            obtain ⟨h12, h⟩ := h
            refine gx_isub C dX7_finishFences_70 ?_
            refine gx_putI C G rfl (fX7_o hV) (fo6_8 (fX7_c hV)) h12 uw_163 (fun _ h9 => h9) dX7_finishFences_71 (fun H locs G => ?_)
            obtain ⟨S13, eS13⟩ : ∃ q9 : Me, q9 = sI S10 o 8 ((S10.1 o 8) - 1) := ⟨_, rfl⟩
            have h := h S13 eS13
            rw [← eS13] at G
            refine gx_aload_n C hl dX7_finishFences_74 rfl ?_
            refine gx_aload C hl dX7_finishFences_75 rfl ?_
            refine gx_aload_n C hl dX7_finishFences_77 rfl ?_
            refine gx_callV C G hl hml (c_X7_unlink l D cy ad hV vy4 vy3 h) rfl (fX7_o hV) (by rw [(fX7_c hV)]; rfl) (by rw [(fX7_c hV)]; decide) rfl uw_517 uw_514 uw_516 up_3 uw_6 hd_X7_unlink ⟨Nat.le_of_ble_eq_true rfl, Nat.le_of_ble_eq_true rfl⟩ ⟨Nat.zero_le _, Nat.zero_le _⟩ rfl rfl (hw_le ad [] rfl (Nat.le_of_ble_eq_true rfl)) dX7_finishFences_78 (kkV (fun S14 H locs h G => ?_))
            exact b81 (B_X7_finishFences_10 V o x1 Q n) ih y2 y3 y4 S14 H locs ls ry2 vy3 vy4 hl G h
          · have h := h.2 c9
            refine gx_aload C hl dX7_finishFences_52 rfl ?_
            refine gx_astore_n C hl dX7_finishFences_54 (Nat.le_of_ble_eq_true rfl) (PL' := [some (.inr (some o)), some (.inl x1), some (.inl y2), some (.inr y4), some (.inr y4)]) rfl (fun ls hl => ?_)
            refine gx_goto (tgt := 81) C dX7_finishFences_55 (by decide) ?_
            exact b81 (B_X7_finishFences_10 V o x1 Q n) ih y2 y4 y4 S4 H locs ls ry2 vy4 vy4 hl G h
        · have h := h.2 c7
          refine gx_iload_n C hl dX7_finishFences_23 rfl ?_
          refine gx_iconst C dX7_finishFences_24 ?_
          refine gx_aload C hl dX7_finishFences_25 rfl ?_
          refine gx_getI C G hz6 lz6 (foA_1 tz6) uw_310 (fun _ h9 => h9) dX7_finishFences_27 ?_
          have r15 := G.r z6 1
          refine gx_ishl C dX7_finishFences_30 ?_
          refine gx_ior C dX7_finishFences_31 ?_
          refine gx_istore_n C hl dX7_finishFences_32 (Nat.le_of_ble_eq_true rfl) (PL' := [some (.inr (some o)), some (.inl x1), some (.inl (bOr y2 (bShl 1 (S4.1 z6 1)))), some (.inr y3), some (.inr y4)]) rfl (fun ls hl => ?_)
          refine gx_aload C hl dX7_finishFences_33 rfl ?_
          refine gx_astore_n C hl dX7_finishFences_35 (Nat.le_of_ble_eq_true rfl) (PL' := [some (.inr (some o)), some (.inl x1), some (.inl (bOr y2 (bShl 1 (S4.1 z6 1)))), some (.inr y4), some (.inr y4)]) rfl (fun ls hl => ?_)
          refine gx_goto (tgt := 81) C dX7_finishFences_36 (by decide) ?_
          exact b81 (B_X7_finishFences_10 V o x1 Q n) ih (bOr y2 (bShl 1 (S4.1 z6 1))) y4 y4 S4 H locs ls (rg_o _) vy4 vy4 hl G h
  clear eA
  unfold PT_X7_finishFences at h
  refine gx_iconst C dX7_finishFences_0 ?_
  refine gx_istore_n C hl dX7_finishFences_1 (Nat.le_of_ble_eq_true rfl) (PL' := [some (.inr (some o)), some (.inl x1), some (.inl 0), none, none]) rfl (fun ls hl => ?_)
  refine gx_null (ad := ad) C dX7_finishFences_2 ?_
  refine gx_astore_n C hl dX7_finishFences_3 (Nat.le_of_ble_eq_true rfl) (PL' := [some (.inr (some o)), some (.inl x1), some (.inl 0), some (.inr none), none]) rfl (fun ls hl => ?_)
  refine gx_aload_n C hl dX7_finishFences_4 rfl ?_
  refine gx_getP C G rfl (fX7_o hV) (fo6_4 (fX7_c hV)) uw_157 (fun _ h9 => h9) dX7_finishFences_5 ?_
  have v16 := G.v o 4
  refine gx_astore C hl dX7_finishFences_8 (Nat.le_of_ble_eq_true rfl) (PL' := [some (.inr (some o)), some (.inl x1), some (.inl 0), some (.inr none), some (.inr (S.2 o 4))]) rfl (fun ls hl => ?_)
  obtain ⟨n9, h⟩ := h
  exact b10 n9 0 none (S.2 o 4) S H locs ls (show rng 0 by decide) vnone v16 hl G h
def B_X7_finish_88 (V : Vt) (o : Nat) (x1 : Option Nat) (x2 : Int) (S : Me) (Q : Me → Prop) : Prop := ∃ z1 : Nat, x1 = some z1 ∧ isA (V.2.1 z1) ∧ (0 ≤ (S.1 z1 1) ∧ (S.1 z1 1) < 4) ∧ (rng ((S.1 (o + 3) (Int.toNat (S.1 z1 1))) + 1)) ∧ (0 ≤ (S.1 z1 1) ∧ (S.1 z1 1) < 4) ∧ ∀ S7 : Me, S7 = sI S (o + 3) (Int.toNat (S.1 z1 1)) ((S.1 (o + 3) (Int.toNat (S.1 z1 1))) + 1) → (0 ≤ (S7.1 z1 1) ∧ (S7.1 z1 1) < 4) ∧ (rng (x2 - (S7.1 z1 5))) ∧ (0 ≤ (S7.1 z1 1) ∧ (S7.1 z1 1) < 4) ∧ ∀ S15 : Me, S15 = sI S7 (o + 4) (Int.toNat (S7.1 z1 1)) (if (S7.1 (o + 4) (Int.toNat (S7.1 z1 1))) < (x2 - (S7.1 z1 5)) then (x2 - (S7.1 z1 5)) else (S7.1 (o + 4) (Int.toNat (S7.1 z1 1)))) → Q S15
def B_X7_finish_54 (V : Vt) (o : Nat) (x1 : Option Nat) (x2 : Int) (y3 : Int) (y4 : Option Nat) (S : Me) (Q : Me → Prop) : Prop := PT_X7_unlink V o x1 y4 S (fun S16 => ∃ z17 : Nat, x1 = some z17 ∧ isA (V.2.1 z17) ∧ ∀ S18 : Me, S18 = sI S16 z17 6 x2 → (rng ((S18.1 o 9) + 1)) ∧ ∀ S21 : Me, S21 = sI S18 o 9 ((S18.1 o 9) + 1) → ((y3 = 0 → B_X7_finish_88 V o x1 x2 S21 Q) ∧ (¬ y3 = 0 → ∀ S24 : Me, S24 = sI S21 o 10 (S21.1 o 9) → B_X7_finish_88 V o x1 x2 S24 Q)))
def B_X7_finish_39 (V : Vt) (o : Nat) (x1 : Option Nat) (x2 : Int) (K11 : Int → Option Nat → Option Nat → Me → Prop) (y5 : Option Nat) (w0 : Int) (S : Me) (Q : Me → Prop) : Prop := ∃ z25 : Nat, y5 = some z25 ∧ isA (V.2.1 z25) ∧ K11 w0 y5 (S.2 z25 8) S
def B_X7_finish_38 (V : Vt) (o : Nat) (x1 : Option Nat) (x2 : Int) (K11 : Int → Option Nat → Option Nat → Me → Prop) (y5 : Option Nat) (S : Me) (Q : Me → Prop) : Prop := B_X7_finish_39 V o x1 x2 K11 y5 0 S Q
def B_X7_finish_11 (V : Vt) (o : Nat) (x1 : Option Nat) (x2 : Int) (Q : Me → Prop) : Nat → (Int → Option Nat → Option Nat → Me → Prop)
  | 0 => fun _ _ _ _ => False
  | n + 1 => fun y3 y4 y5 S => ((y5 = none → B_X7_finish_54 V o x1 x2 y3 y4 S Q) ∧ (¬ y5 = none → ((y5 = x1 → B_X7_finish_54 V o x1 x2 y3 y4 S Q) ∧ (¬ y5 = x1 → ((y3 = 0 → B_X7_finish_38 V o x1 x2 (B_X7_finish_11 V o x1 x2 Q n) y5 S Q) ∧ (¬ y3 = 0 → ∃ z32 : Nat, y5 = some z32 ∧ isA (V.2.1 z32) ∧ PV_isFence V z32 S (fun t31 S30 => ((t31 = 0 → B_X7_finish_38 V o x1 x2 (B_X7_finish_11 V o x1 x2 Q n) y5 S30 Q) ∧ (¬ t31 = 0 → B_X7_finish_39 V o x1 x2 (B_X7_finish_11 V o x1 x2 Q n) y5 1 S30 Q)))))))))
def PT_X7_finish (V : Vt) (o : Nat) (x1 : Option Nat) (x2 : Int) (S : Me) (Q : Me → Prop) : Prop := (∃ n9 : Nat, B_X7_finish_11 V o x1 x2 Q n9 1 none (S.2 o 4) S)
theorem hd_X7_finish : yX7_finish.cls ≠ "java/lang/invoke/MethodHandle" ∧ yX7_finish.cls ≠ "java/lang/invoke/VarHandle" ∧ (parseMethodDescriptor yX7_finish.desc).map (fun d => d.parameters.length) = some 2 := by decide +kernel
set_option maxHeartbeats 4000000 in
set_option maxRecDepth 100000 in
theorem c_X7_finish (l : Launch) (D : va_G) (cy : ClassId × ClassId × ClassId × ClassId) (ad : Nat → Nat) {V : Vt} {S : Me} {o : Nat} {x1 : Option Nat} {x2 : Int} (hV : fX7 V o) (vx1 : ∀ z, x1 = some z → z < V.1) (rx2 : rng x2) {Q : Me → Prop} (h : PT_X7_finish V o x1 x2 S Q) : KM l D cy yX7_finish cX7_finish 6 (Option.none : Option Jvm.ClassFile.FieldType) 2 40 ad V S [.inr (some o), .inr x1, .inl x2] (qV Q) := by
  refine KM.of (by decide) rfl (Nat.le_of_ble_eq_true rfl) (own := RX7) (fun p e s m args below meth c A ls H locs eA C hret hml hmn hl G => ?_)
  have hl : lo ad ls [some (.inr (some o)), some (.inr x1), some (.inl x2), none, none, none] := hl
  have b88 : ∀ (S : Me) (H : Heap) (locs : List Loc) (ls : Array Slot), lo ad ls [some (.inr (some o)), some (.inr x1), some (.inl x2), none, none, none] → Gy D cy A s.heap ad V S H locs → B_X7_finish_88 V o x1 x2 S Q → W p l e (rmx 2 40) s m args below meth c H locs 0 0 (qm below D cy ad V A args s (qV Q)) (F0 m 88 ls []) := by
    intro S H locs ls hl G h
    unfold B_X7_finish_88 at h
    refine gx_aload_n C hl dX7_finish_88 rfl ?_
    refine gx_getF C G rfl (fX7_o hV) (fo6_2 (fX7_c hV)) (fX7_doneOf hV) uw_153 (fun _ h9 => h9) dX7_finish_89 ?_
    refine gx_aload_n C hl dX7_finish_92 rfl ?_
    obtain ⟨z1, hz1, tz1, h⟩ := h
    have lz1 := (vx1 z1 hz1)
    refine gx_getI C G hz1 lz1 (foA_1 tz1) uw_310 (fun _ h9 => h9) dX7_finish_93 ?_
    have r2 := G.r z1 1
    refine gx_dup2RI C dX7_finish_96 ?_
    obtain ⟨h3, h⟩ := h
    refine gx_iald C G rfl (fX7_doneOf_l hV) (fX7_doneOf_t hV) r2 h3.1 (ixl (fX7_doneOf_n hV) h3.2) dX7_finish_97 ?_
    have r4 := G.r (o + 3) (Int.toNat (S.1 z1 1))
    refine gx_iconst C dX7_finish_98 ?_
    obtain ⟨h5, h⟩ := h
    refine gx_iadd C dX7_finish_99 ?_
    obtain ⟨h6, h⟩ := h
    refine gx_iast C G rfl (fX7_doneOf_l hV) (fX7_doneOf_t hV) r2 h5 h6.1 (ixl (fX7_doneOf_n hV) h6.2) dX7_finish_100 (fun H locs G => ?_)
    obtain ⟨S7, eS7⟩ : ∃ q9 : Me, q9 = sI S (o + 3) (Int.toNat (S.1 z1 1)) ((S.1 (o + 3) (Int.toNat (S.1 z1 1))) + 1) := ⟨_, rfl⟩
    have h := h S7 eS7
    rw [← eS7] at G
    refine gx_aload_n C hl dX7_finish_101 rfl ?_
    refine gx_getF C G rfl (fX7_o hV) (fo6_3 (fX7_c hV)) (fX7_worstWaits hV) uw_155 (fun _ h9 => h9) dX7_finish_102 ?_
    refine gx_aload_n C hl dX7_finish_105 rfl ?_
    refine gx_getI C G hz1 lz1 (foA_1 tz1) uw_310 (fun _ h9 => h9) dX7_finish_106 ?_
    have r8 := G.r z1 1
    refine gx_aload_n C hl dX7_finish_109 rfl ?_
    refine gx_getF C G rfl (fX7_o hV) (fo6_3 (fX7_c hV)) (fX7_worstWaits hV) uw_155 (fun _ h9 => h9) dX7_finish_110 ?_
    refine gx_aload_n C hl dX7_finish_113 rfl ?_
    refine gx_getI C G hz1 lz1 (foA_1 tz1) uw_310 (fun _ h9 => h9) dX7_finish_114 ?_
    have r9 := G.r z1 1
    obtain ⟨h10, h⟩ := h
    refine gx_iald C G rfl (fX7_worstWaits_l hV) (fX7_worstWaits_t hV) r9 h10.1 (ixl (fX7_worstWaits_n hV) h10.2) dX7_finish_117 ?_
    have r11 := G.r (o + 4) (Int.toNat (S7.1 z1 1))
    refine gx_iload_n C hl dX7_finish_118 rfl ?_
    refine gx_aload_n C hl dX7_finish_119 rfl ?_
    refine gx_getI C G hz1 lz1 (foA_5 tz1) uw_327 (fun _ h9 => h9) dX7_finish_120 ?_
    have r12 := G.r z1 5
    obtain ⟨h13, h⟩ := h
    refine gx_isub C dX7_finish_123 ?_
    refine gx_max C hl hml r11 h13 uw_653 ⟨Nat.le_of_ble_eq_true rfl, Nat.le_of_ble_eq_true rfl⟩ ⟨Nat.zero_le _, Nat.zero_le _⟩ (hw_le ad [.inl (S7.1 z1 1), .inr (some (o + 4))] rfl (Nat.le_of_ble_eq_true rfl)) dX7_finish_124 ?_
    obtain ⟨h14, h⟩ := h
    refine gx_iast C G rfl (fX7_worstWaits_l hV) (fX7_worstWaits_t hV) r8 (rg_mx r11 h13) h14.1 (ixl (fX7_worstWaits_n hV) h14.2) dX7_finish_127 (fun H locs G => ?_)
    obtain ⟨S15, eS15⟩ : ∃ q9 : Me, q9 = sI S7 (o + 4) (Int.toNat (S7.1 z1 1)) (if (S7.1 (o + 4) (Int.toNat (S7.1 z1 1))) < (x2 - (S7.1 z1 5)) then (x2 - (S7.1 z1 5)) else (S7.1 (o + 4) (Int.toNat (S7.1 z1 1)))) := ⟨_, rfl⟩
    have h := h S15 eS15
    rw [← eS15] at G
    exact gx_vret C G hret h dX7_finish_128
  have b54 : ∀ (y3 : Int) (y4 : Option Nat) (S : Me) (H : Heap) (locs : List Loc) (ls : Array Slot), rng y3 → (∀ z, y4 = some z → z < V.1) → lo ad ls [some (.inr (some o)), some (.inr x1), some (.inl x2), some (.inl y3), some (.inr y4), none] → Gy D cy A s.heap ad V S H locs → B_X7_finish_54 V o x1 x2 y3 y4 S Q → W p l e (rmx 2 40) s m args below meth c H locs 0 0 (qm below D cy ad V A args s (qV Q)) (F0 m 54 ls []) := by
    intro y3 y4 S H locs ls ry3 vy4 hl G h
    unfold B_X7_finish_54 at h
    refine gx_aload_n C hl dX7_finish_54 rfl ?_
    refine gx_aload_n C hl dX7_finish_55 rfl ?_
    refine gx_aload C hl dX7_finish_56 rfl ?_
    refine gx_callV C G hl hml (c_X7_unlink l D cy ad hV vx1 vy4 h) rfl (fX7_o hV) (by rw [(fX7_c hV)]; rfl) (by rw [(fX7_c hV)]; decide) rfl uw_517 uw_514 uw_516 up_3 uw_6 hd_X7_unlink ⟨Nat.le_of_ble_eq_true rfl, Nat.le_of_ble_eq_true rfl⟩ ⟨Nat.zero_le _, Nat.zero_le _⟩ rfl rfl (hw_le ad [] rfl (Nat.le_of_ble_eq_true rfl)) dX7_finish_58 (kkV (fun S16 H locs h G => ?_))
    refine gx_aload_n C hl dX7_finish_61 rfl ?_
    refine gx_iload_n C hl dX7_finish_62 rfl ?_
    obtain ⟨z17, hz17, tz17, h⟩ := h
    have lz17 := (vx1 z17 hz17)
    refine gx_putI C G hz17 lz17 (foA_6 tz17) rx2 uw_330 (fun _ h9 => h9) dX7_finish_63 (fun H locs G => ?_)
    obtain ⟨S18, eS18⟩ : ∃ q9 : Me, q9 = sI S16 z17 6 x2 := ⟨_, rfl⟩
    have h := h S18 eS18
    rw [← eS18] at G
    refine gx_aload_n C hl dX7_finish_66 rfl ?_
    refine gx_dupR C dX7_finish_67 ?_
    refine gx_getI C G rfl (fX7_o hV) (fo6_9 (fX7_c hV)) uw_165 (fun _ h9 => h9) dX7_finish_68 ?_
    have r19 := G.r o 9
    refine gx_iconst C dX7_finish_71 ?_
    obtain ⟨h20, h⟩ := h
    refine gx_iadd C dX7_finish_72 ?_
    refine gx_putI C G rfl (fX7_o hV) (fo6_9 (fX7_c hV)) h20 uw_165 (fun _ h9 => h9) dX7_finish_73 (fun H locs G => ?_)
    obtain ⟨S21, eS21⟩ : ∃ q9 : Me, q9 = sI S18 o 9 ((S18.1 o 9) + 1) := ⟨_, rfl⟩
    have h := h S21 eS21
    rw [← eS21] at G
    refine gx_iload_n C hl dX7_finish_76 rfl ?_
    refine gx_if_eq (tgt := 88) C ry3 dX7_finish_77 (by decide) (fun c22 => ?_) (fun c22 => ?_)
    · have h := h.1 c22
      exact b88 S21 H locs ls (lo_mask (bs := [true, true, true, false, false, false]) hl rfl rfl) G h
    · have h := h.2 c22
      refine gx_aload_n C hl dX7_finish_80 rfl ?_
      refine gx_aload_n C hl dX7_finish_81 rfl ?_
      refine gx_getI C G rfl (fX7_o hV) (fo6_9 (fX7_c hV)) uw_165 (fun _ h9 => h9) dX7_finish_82 ?_
      have r23 := G.r o 9
      refine gx_putI C G rfl (fX7_o hV) (fo6_10 (fX7_c hV)) r23 uw_166 (fun _ h9 => h9) dX7_finish_85 (fun H locs G => ?_)
      obtain ⟨S24, eS24⟩ : ∃ q9 : Me, q9 = sI S21 o 10 (S21.1 o 9) := ⟨_, rfl⟩
      have h := h S24 eS24
      rw [← eS24] at G
      exact b88 S24 H locs ls (lo_mask (bs := [true, true, true, false, false, false]) hl rfl rfl) G h
  have b39 : ∀ (K11 : Int → Option Nat → Option Nat → Me → Prop) (hK11 : ∀ (y3 : Int) (y4 : Option Nat) (y5 : Option Nat) (S : Me) (H : Heap) (locs : List Loc) (ls : Array Slot), rng y3 → (∀ z, y4 = some z → z < V.1) → (∀ z, y5 = some z → z < V.1) → lo ad ls [some (.inr (some o)), some (.inr x1), some (.inl x2), some (.inl y3), some (.inr y4), some (.inr y5)] → Gy D cy A s.heap ad V S H locs → K11 y3 y4 y5 S → W p l e (rmx 2 40) s m args below meth c H locs 0 0 (qm below D cy ad V A args s (qV Q)) (F0 m 11 ls [])) (y5 : Option Nat) (w0 : Int) (S : Me) (H : Heap) (locs : List Loc) (ls : Array Slot), (∀ z, y5 = some z → z < V.1) → rng w0 → lo ad ls [some (.inr (some o)), some (.inr x1), some (.inl x2), none, none, some (.inr y5)] → Gy D cy A s.heap ad V S H locs → B_X7_finish_39 V o x1 x2 K11 y5 w0 S Q → W p l e (rmx 2 40) s m args below meth c H locs 0 0 (qm below D cy ad V A args s (qV Q)) (F0 m 39 ls [vI w0]) := by
    intro K11 hK11 y5 w0 S H locs ls vy5 rw0 hl G h
    unfold B_X7_finish_39 at h
    refine gx_istore_n C hl dX7_finish_39 (Nat.le_of_ble_eq_true rfl) (PL' := [some (.inr (some o)), some (.inr x1), some (.inl x2), some (.inl w0), none, some (.inr y5)]) rfl (fun ls hl => ?_)
    refine gx_aload C hl dX7_finish_40 rfl ?_
    refine gx_astore C hl dX7_finish_42 (Nat.le_of_ble_eq_true rfl) (PL' := [some (.inr (some o)), some (.inr x1), some (.inl x2), some (.inl w0), some (.inr y5), some (.inr y5)]) rfl (fun ls hl => ?_)
    refine gx_aload C hl dX7_finish_44 rfl ?_
    obtain ⟨z25, hz25, tz25, h⟩ := h
    have lz25 := (vy5 z25 hz25)
    refine gx_getP C G hz25 lz25 (foA_8 tz25) uw_337 (fun _ h9 => h9) dX7_finish_46 ?_
    have v26 := G.v z25 8
    refine gx_astore C hl dX7_finish_49 (Nat.le_of_ble_eq_true rfl) (PL' := [some (.inr (some o)), some (.inr x1), some (.inl x2), some (.inl w0), some (.inr y5), some (.inr (S.2 z25 8))]) rfl (fun ls hl => ?_)
    refine gx_goto (tgt := 11) C dX7_finish_51 (by decide) ?_
    exact hK11 w0 y5 (S.2 z25 8) S H locs ls rw0 vy5 v26 hl G h
  have b38 : ∀ (K11 : Int → Option Nat → Option Nat → Me → Prop) (hK11 : ∀ (y3 : Int) (y4 : Option Nat) (y5 : Option Nat) (S : Me) (H : Heap) (locs : List Loc) (ls : Array Slot), rng y3 → (∀ z, y4 = some z → z < V.1) → (∀ z, y5 = some z → z < V.1) → lo ad ls [some (.inr (some o)), some (.inr x1), some (.inl x2), some (.inl y3), some (.inr y4), some (.inr y5)] → Gy D cy A s.heap ad V S H locs → K11 y3 y4 y5 S → W p l e (rmx 2 40) s m args below meth c H locs 0 0 (qm below D cy ad V A args s (qV Q)) (F0 m 11 ls [])) (y5 : Option Nat) (S : Me) (H : Heap) (locs : List Loc) (ls : Array Slot), (∀ z, y5 = some z → z < V.1) → lo ad ls [some (.inr (some o)), some (.inr x1), some (.inl x2), none, none, some (.inr y5)] → Gy D cy A s.heap ad V S H locs → B_X7_finish_38 V o x1 x2 K11 y5 S Q → W p l e (rmx 2 40) s m args below meth c H locs 0 0 (qm below D cy ad V A args s (qV Q)) (F0 m 38 ls []) := by
    intro K11 hK11 y5 S H locs ls vy5 hl G h
    unfold B_X7_finish_38 at h
    refine gx_iconst C dX7_finish_38 ?_
    exact b39 K11 hK11 y5 0 S H locs ls vy5 (show rng 0 by decide) hl G h
  have b11 : ∀ (n : Nat) (y3 : Int) (y4 : Option Nat) (y5 : Option Nat) (S : Me) (H : Heap) (locs : List Loc) (ls : Array Slot), rng y3 → (∀ z, y4 = some z → z < V.1) → (∀ z, y5 = some z → z < V.1) → lo ad ls [some (.inr (some o)), some (.inr x1), some (.inl x2), some (.inl y3), some (.inr y4), some (.inr y5)] → Gy D cy A s.heap ad V S H locs → B_X7_finish_11 V o x1 x2 Q n y3 y4 y5 S → W p l e (rmx 2 40) s m args below meth c H locs 0 0 (qm below D cy ad V A args s (qV Q)) (F0 m 11 ls []) := by
    intro n
    induction n with
    | zero =>
      intro y3 y4 y5 S H locs ls ry3 vy4 vy5 hl G h
      exact absurd h id
    | succ n ih =>
      intro y3 y4 y5 S H locs ls ry3 vy4 vy5 hl G h
      rw [B_X7_finish_11] at h
      refine gx_aload C hl dX7_finish_11 rfl ?_
      refine gx_ifnull (tgt := 54) C dX7_finish_13 (by decide) (fun c27 => ?_) (fun c27 => ?_)
      · have h := h.1 c27
        exact b54 y3 y4 S H locs ls ry3 vy4 (lo_mask (bs := [true, true, true, true, true, false]) hl rfl rfl) G h
      · have h := h.2 c27
        refine gx_aload C hl dX7_finish_16 rfl ?_
        refine gx_aload_n C hl dX7_finish_18 rfl ?_
        refine gx_acmp_eq (tgt := 54) C G vy5 vx1 dX7_finish_19 (by decide) (fun c28 => ?_) (fun c28 => ?_)
        · have h := h.1 c28
          exact b54 y3 y4 S H locs ls ry3 vy4 (lo_mask (bs := [true, true, true, true, true, false]) hl rfl rfl) G h
        · have h := h.2 c28
          refine gx_iload_n C hl dX7_finish_22 rfl ?_
          refine gx_if_eq (tgt := 38) C ry3 dX7_finish_23 (by decide) (fun c29 => ?_) (fun c29 => ?_)
          · have h := h.1 c29
            exact b38 (B_X7_finish_11 V o x1 x2 Q n) ih y5 S H locs ls vy5 (lo_mask (bs := [true, true, true, false, false, true]) hl rfl rfl) G h
          · have h := h.2 c29
            refine gx_aload C hl dX7_finish_26 rfl ?_
            obtain ⟨z32, hz32, tz32, h⟩ := h
            have lz32 := (vy5 z32 hz32)
            refine gv_7_50 C G hl hml hz32 lz32 tz32 h ⟨Nat.le_of_ble_eq_true rfl, Nat.le_of_ble_eq_true rfl⟩ ⟨Nat.zero_le _, Nat.zero_le _⟩ (hw_le ad [] rfl (Nat.le_of_ble_eq_true rfl)) dX7_finish_28 (fun t31 S30 H locs rt31 h G => ?_)
            refine gx_if_eq (tgt := 38) C rt31 dX7_finish_31 (by decide) (fun c33 => ?_) (fun c33 => ?_)
            · have h := h.1 c33
              exact b38 (B_X7_finish_11 V o x1 x2 Q n) ih y5 S30 H locs ls vy5 (lo_mask (bs := [true, true, true, false, false, true]) hl rfl rfl) G h
            · have h := h.2 c33
              refine gx_iconst C dX7_finish_34 ?_
              refine gx_goto (tgt := 39) C dX7_finish_35 (by decide) ?_
              exact b39 (B_X7_finish_11 V o x1 x2 Q n) ih y5 1 S30 H locs ls vy5 (show rng 1 by decide) (lo_mask (bs := [true, true, true, false, false, true]) hl rfl rfl) G h
  clear eA
  unfold PT_X7_finish at h
  refine gx_iconst C dX7_finish_0 ?_
  refine gx_istore_n C hl dX7_finish_1 (Nat.le_of_ble_eq_true rfl) (PL' := [some (.inr (some o)), some (.inr x1), some (.inl x2), some (.inl 1), none, none]) rfl (fun ls hl => ?_)
  refine gx_null (ad := ad) C dX7_finish_2 ?_
  refine gx_astore C hl dX7_finish_3 (Nat.le_of_ble_eq_true rfl) (PL' := [some (.inr (some o)), some (.inr x1), some (.inl x2), some (.inl 1), some (.inr none), none]) rfl (fun ls hl => ?_)
  refine gx_aload_n C hl dX7_finish_5 rfl ?_
  refine gx_getP C G rfl (fX7_o hV) (fo6_4 (fX7_c hV)) uw_157 (fun _ h9 => h9) dX7_finish_6 ?_
  have v34 := G.v o 4
  refine gx_astore C hl dX7_finish_9 (Nat.le_of_ble_eq_true rfl) (PL' := [some (.inr (some o)), some (.inr x1), some (.inl x2), some (.inl 1), some (.inr none), some (.inr (S.2 o 4))]) rfl (fun ls hl => ?_)
  obtain ⟨n9, h⟩ := h
  exact b11 n9 1 none (S.2 o 4) S H locs ls (show rng 1 by decide) vnone v34 hl G h
def B_X7_isHeld_74 (V : Vt) (o : Nat) (x1 : Option Nat) (x2 : Int) (K8 : Int → Option Nat → Me → Prop) (y3 : Int) (y4 : Option Nat) (S : Me) (Q : Int → Me → Prop) : Prop := ∃ z1 : Nat, y4 = some z1 ∧ isA (V.2.1 z1) ∧ K8 y3 (S.2 z1 8) S
def B_X7_isHeld_73 (V : Vt) (o : Nat) (x1 : Option Nat) (x2 : Int) (K8 : Int → Option Nat → Me → Prop) (y4 : Option Nat) (w0 : Int) (S : Me) (Q : Int → Me → Prop) : Prop := B_X7_isHeld_74 V o x1 x2 K8 w0 y4 S Q
def B_X7_isHeld_68 (V : Vt) (o : Nat) (x1 : Option Nat) (x2 : Int) (K8 : Int → Option Nat → Me → Prop) (y4 : Option Nat) (S : Me) (Q : Int → Me → Prop) : Prop := B_X7_isHeld_73 V o x1 x2 K8 y4 1 S Q
def B_X7_isHeld_56 (V : Vt) (o : Nat) (x1 : Option Nat) (x2 : Int) (K8 : Int → Option Nat → Me → Prop) (y3 : Int) (y4 : Option Nat) (S : Me) (Q : Int → Me → Prop) : Prop := ((¬ y3 = 0 → B_X7_isHeld_68 V o x1 x2 K8 y4 S Q) ∧ (y3 = 0 → ∃ z6 : Nat, y4 = some z6 ∧ isA (V.2.1 z6) ∧ PV_isFence V z6 S (fun t5 S4 => ((¬ t5 = 0 → B_X7_isHeld_73 V o x1 x2 K8 y4 0 S4 Q) ∧ (t5 = 0 → B_X7_isHeld_68 V o x1 x2 K8 y4 S4 Q)))))
def B_X7_isHeld_8 (V : Vt) (o : Nat) (x1 : Option Nat) (x2 : Int) (Q : Int → Me → Prop) : Nat → (Int → Option Nat → Me → Prop)
  | 0 => fun _ _ _ => False
  | n + 1 => fun y3 y4 S => ((y4 = none → Q 0 S) ∧ (¬ y4 = none → ((y4 = x1 → Q 0 S) ∧ (¬ y4 = x1 → ∃ z12 : Nat, y4 = some z12 ∧ isA (V.2.1 z12) ∧ PV_clashesWith V z12 x1 S (fun t11 S10 => ((t11 = 0 → ∃ z15 : Nat, x1 = some z15 ∧ isA (V.2.1 z15) ∧ ((¬ (S10.1 z12 1) = (S10.1 z15 1) → B_X7_isHeld_74 V o x1 x2 (B_X7_isHeld_8 V o x1 x2 Q n) y3 y4 S10 Q) ∧ ((S10.1 z12 1) = (S10.1 z15 1) → PV_isFence V z12 S10 (fun t19 S18 => ((t19 = 0 → B_X7_isHeld_56 V o x1 x2 (B_X7_isHeld_8 V o x1 x2 Q n) y3 y4 S18 Q) ∧ (¬ t19 = 0 → ((y3 = 0 → B_X7_isHeld_56 V o x1 x2 (B_X7_isHeld_8 V o x1 x2 Q n) y3 y4 S18 Q) ∧ (¬ y3 = 0 → Q 1 S18)))))))) ∧ (¬ t11 = 0 → Q 1 S10)))))))
def PT_X7_isHeld (V : Vt) (o : Nat) (x1 : Option Nat) (x2 : Int) (S : Me) (Q : Int → Me → Prop) : Prop := (∃ n9 : Nat, B_X7_isHeld_8 V o x1 x2 Q n9 x2 (S.2 o 4) S)
theorem hd_X7_isHeld : yX7_isHeld.cls ≠ "java/lang/invoke/MethodHandle" ∧ yX7_isHeld.cls ≠ "java/lang/invoke/VarHandle" ∧ (parseMethodDescriptor yX7_isHeld.desc).map (fun d => d.parameters.length) = some 2 := by decide +kernel
set_option maxHeartbeats 4000000 in
set_option maxRecDepth 100000 in
theorem c_X7_isHeld (l : Launch) (D : va_G) (cy : ClassId × ClassId × ClassId × ClassId) (ad : Nat → Nat) {V : Vt} {S : Me} {o : Nat} {x1 : Option Nat} {x2 : Int} (hV : fX7 V o) (vx1 : ∀ z, x1 = some z → z < V.1) (rx2 : rng x2) {Q : Int → Me → Prop} (h : PT_X7_isHeld V o x1 x2 S Q) : KM l D cy yX7_isHeld cX7_isHeld 5 (Option.some Jvm.ClassFile.FieldType.boolean) 2 41 ad V S [.inr (some o), .inr x1, .inl x2] (qI Q) := by
  refine KM.of (by decide) rfl (Nat.le_of_ble_eq_true rfl) (own := RX7) (fun p e s m args below meth c A ls H locs eA C hret hml hmn hl G => ?_)
  have hl : lo ad ls [some (.inr (some o)), some (.inr x1), some (.inl x2), none, none] := hl
  have b74 : ∀ (K8 : Int → Option Nat → Me → Prop) (hK8 : ∀ (y3 : Int) (y4 : Option Nat) (S : Me) (H : Heap) (locs : List Loc) (ls : Array Slot), rng y3 → (∀ z, y4 = some z → z < V.1) → lo ad ls [some (.inr (some o)), some (.inr x1), some (.inl x2), some (.inl y3), some (.inr y4)] → Gy D cy A s.heap ad V S H locs → K8 y3 y4 S → W p l e (rmx 2 41) s m args below meth c H locs 0 0 (qm below D cy ad V A args s (qI Q)) (F0 m 8 ls [])) (y3 : Int) (y4 : Option Nat) (S : Me) (H : Heap) (locs : List Loc) (ls : Array Slot), rng y3 → (∀ z, y4 = some z → z < V.1) → lo ad ls [some (.inr (some o)), some (.inr x1), some (.inl x2), some (.inl y3), some (.inr y4)] → Gy D cy A s.heap ad V S H locs → B_X7_isHeld_74 V o x1 x2 K8 y3 y4 S Q → W p l e (rmx 2 41) s m args below meth c H locs 0 0 (qm below D cy ad V A args s (qI Q)) (F0 m 74 ls []) := by
    intro K8 hK8 y3 y4 S H locs ls ry3 vy4 hl G h
    unfold B_X7_isHeld_74 at h
    refine gx_aload C hl dX7_isHeld_74 rfl ?_
    obtain ⟨z1, hz1, tz1, h⟩ := h
    have lz1 := (vy4 z1 hz1)
    refine gx_getP C G hz1 lz1 (foA_8 tz1) uw_337 (fun _ h9 => h9) dX7_isHeld_76 ?_
    have v2 := G.v z1 8
    refine gx_astore C hl dX7_isHeld_79 (Nat.le_of_ble_eq_true rfl) (PL' := [some (.inr (some o)), some (.inr x1), some (.inl x2), some (.inl y3), some (.inr (S.2 z1 8))]) rfl (fun ls hl => ?_)
    refine gx_goto (tgt := 8) C dX7_isHeld_81 (by decide) ?_
    exact hK8 y3 (S.2 z1 8) S H locs ls ry3 v2 hl G h
  have b73 : ∀ (K8 : Int → Option Nat → Me → Prop) (hK8 : ∀ (y3 : Int) (y4 : Option Nat) (S : Me) (H : Heap) (locs : List Loc) (ls : Array Slot), rng y3 → (∀ z, y4 = some z → z < V.1) → lo ad ls [some (.inr (some o)), some (.inr x1), some (.inl x2), some (.inl y3), some (.inr y4)] → Gy D cy A s.heap ad V S H locs → K8 y3 y4 S → W p l e (rmx 2 41) s m args below meth c H locs 0 0 (qm below D cy ad V A args s (qI Q)) (F0 m 8 ls [])) (y4 : Option Nat) (w0 : Int) (S : Me) (H : Heap) (locs : List Loc) (ls : Array Slot), (∀ z, y4 = some z → z < V.1) → rng w0 → lo ad ls [some (.inr (some o)), some (.inr x1), some (.inl x2), none, some (.inr y4)] → Gy D cy A s.heap ad V S H locs → B_X7_isHeld_73 V o x1 x2 K8 y4 w0 S Q → W p l e (rmx 2 41) s m args below meth c H locs 0 0 (qm below D cy ad V A args s (qI Q)) (F0 m 73 ls [vI w0]) := by
    intro K8 hK8 y4 w0 S H locs ls vy4 rw0 hl G h
    unfold B_X7_isHeld_73 at h
    refine gx_istore_n C hl dX7_isHeld_73 (Nat.le_of_ble_eq_true rfl) (PL' := [some (.inr (some o)), some (.inr x1), some (.inl x2), some (.inl w0), some (.inr y4)]) rfl (fun ls hl => ?_)
    exact b74 K8 hK8 w0 y4 S H locs ls rw0 vy4 hl G h
  have b68 : ∀ (K8 : Int → Option Nat → Me → Prop) (hK8 : ∀ (y3 : Int) (y4 : Option Nat) (S : Me) (H : Heap) (locs : List Loc) (ls : Array Slot), rng y3 → (∀ z, y4 = some z → z < V.1) → lo ad ls [some (.inr (some o)), some (.inr x1), some (.inl x2), some (.inl y3), some (.inr y4)] → Gy D cy A s.heap ad V S H locs → K8 y3 y4 S → W p l e (rmx 2 41) s m args below meth c H locs 0 0 (qm below D cy ad V A args s (qI Q)) (F0 m 8 ls [])) (y4 : Option Nat) (S : Me) (H : Heap) (locs : List Loc) (ls : Array Slot), (∀ z, y4 = some z → z < V.1) → lo ad ls [some (.inr (some o)), some (.inr x1), some (.inl x2), none, some (.inr y4)] → Gy D cy A s.heap ad V S H locs → B_X7_isHeld_68 V o x1 x2 K8 y4 S Q → W p l e (rmx 2 41) s m args below meth c H locs 0 0 (qm below D cy ad V A args s (qI Q)) (F0 m 68 ls []) := by
    intro K8 hK8 y4 S H locs ls vy4 hl G h
    unfold B_X7_isHeld_68 at h
    refine gx_iconst C dX7_isHeld_68 ?_
    refine gx_goto (tgt := 73) C dX7_isHeld_69 (by decide) ?_
    exact b73 K8 hK8 y4 1 S H locs ls vy4 (show rng 1 by decide) hl G h
  have b56 : ∀ (K8 : Int → Option Nat → Me → Prop) (hK8 : ∀ (y3 : Int) (y4 : Option Nat) (S : Me) (H : Heap) (locs : List Loc) (ls : Array Slot), rng y3 → (∀ z, y4 = some z → z < V.1) → lo ad ls [some (.inr (some o)), some (.inr x1), some (.inl x2), some (.inl y3), some (.inr y4)] → Gy D cy A s.heap ad V S H locs → K8 y3 y4 S → W p l e (rmx 2 41) s m args below meth c H locs 0 0 (qm below D cy ad V A args s (qI Q)) (F0 m 8 ls [])) (y3 : Int) (y4 : Option Nat) (S : Me) (H : Heap) (locs : List Loc) (ls : Array Slot), rng y3 → (∀ z, y4 = some z → z < V.1) → lo ad ls [some (.inr (some o)), some (.inr x1), some (.inl x2), some (.inl y3), some (.inr y4)] → Gy D cy A s.heap ad V S H locs → B_X7_isHeld_56 V o x1 x2 K8 y3 y4 S Q → W p l e (rmx 2 41) s m args below meth c H locs 0 0 (qm below D cy ad V A args s (qI Q)) (F0 m 56 ls []) := by
    intro K8 hK8 y3 y4 S H locs ls ry3 vy4 hl G h
    unfold B_X7_isHeld_56 at h
    refine gx_iload_n C hl dX7_isHeld_56 rfl ?_
    refine gx_if_ne (tgt := 68) C ry3 dX7_isHeld_57 (by decide) (fun c3 => ?_) (fun c3 => ?_)
    · have h := h.1 c3
      exact b68 K8 hK8 y4 S H locs ls vy4 (lo_mask (bs := [true, true, true, false, true]) hl rfl rfl) G h
    · have h := h.2 c3
      refine gx_aload C hl dX7_isHeld_60 rfl ?_
      obtain ⟨z6, hz6, tz6, h⟩ := h
      have lz6 := (vy4 z6 hz6)
      refine gv_7_50 C G hl hml hz6 lz6 tz6 h ⟨Nat.le_of_ble_eq_true rfl, Nat.le_of_ble_eq_true rfl⟩ ⟨Nat.zero_le _, Nat.zero_le _⟩ (hw_le ad [] rfl (Nat.le_of_ble_eq_true rfl)) dX7_isHeld_62 (fun t5 S4 H locs rt5 h G => ?_)
      refine gx_if_ne (tgt := 72) C rt5 dX7_isHeld_65 (by decide) (fun c7 => ?_) (fun c7 => ?_)
      · have h := h.1 c7
        refine gx_iconst C dX7_isHeld_72 ?_
        exact b73 K8 hK8 y4 0 S4 H locs ls vy4 (show rng 0 by decide) (lo_mask (bs := [true, true, true, false, true]) hl rfl rfl) G h
      · have h := h.2 c7
        exact b68 K8 hK8 y4 S4 H locs ls vy4 (lo_mask (bs := [true, true, true, false, true]) hl rfl rfl) G h
  have b8 : ∀ (n : Nat) (y3 : Int) (y4 : Option Nat) (S : Me) (H : Heap) (locs : List Loc) (ls : Array Slot), rng y3 → (∀ z, y4 = some z → z < V.1) → lo ad ls [some (.inr (some o)), some (.inr x1), some (.inl x2), some (.inl y3), some (.inr y4)] → Gy D cy A s.heap ad V S H locs → B_X7_isHeld_8 V o x1 x2 Q n y3 y4 S → W p l e (rmx 2 41) s m args below meth c H locs 0 0 (qm below D cy ad V A args s (qI Q)) (F0 m 8 ls []) := by
    intro n
    induction n with
    | zero =>
      intro y3 y4 S H locs ls ry3 vy4 hl G h
      exact absurd h id
    | succ n ih =>
      intro y3 y4 S H locs ls ry3 vy4 hl G h
      rw [B_X7_isHeld_8] at h
      refine gx_aload C hl dX7_isHeld_8 rfl ?_
      refine gx_ifnull (tgt := 84) C dX7_isHeld_10 (by decide) (fun c8 => ?_) (fun c8 => ?_)
      · have h := h.1 c8
        refine gx_iconst C dX7_isHeld_84 ?_
        exact gx_zret C G hret (Or.inl rfl) h dX7_isHeld_85
      · have h := h.2 c8
        refine gx_aload C hl dX7_isHeld_13 rfl ?_
        refine gx_aload_n C hl dX7_isHeld_15 rfl ?_
        refine gx_acmp_eq (tgt := 84) C G vy4 vx1 dX7_isHeld_16 (by decide) (fun c9 => ?_) (fun c9 => ?_)
        · have h := h.1 c9
          refine gx_iconst C dX7_isHeld_84 ?_
          exact gx_zret C G hret (Or.inl rfl) h dX7_isHeld_85
        · have h := h.2 c9
          refine gx_aload C hl dX7_isHeld_19 rfl ?_
          refine gx_aload_n C hl dX7_isHeld_21 rfl ?_
          obtain ⟨z12, hz12, tz12, h⟩ := h
          have lz12 := (vy4 z12 hz12)
          refine gv_7_77 C G hl hml hz12 lz12 tz12 vx1 h ⟨Nat.le_of_ble_eq_true rfl, Nat.le_of_ble_eq_true rfl⟩ ⟨Nat.zero_le _, Nat.zero_le _⟩ (hw_le ad [] rfl (Nat.le_of_ble_eq_true rfl)) dX7_isHeld_22 (fun t11 S10 H locs rt11 h G => ?_)
          refine gx_if_eq (tgt := 30) C rt11 dX7_isHeld_25 (by decide) (fun c13 => ?_) (fun c13 => ?_)
          · have h := h.1 c13
            refine gx_aload C hl dX7_isHeld_30 rfl ?_
            refine gx_getI C G hz12 lz12 (foA_1 tz12) uw_310 (fun _ h9 => h9) dX7_isHeld_32 ?_
            have r14 := G.r z12 1
            refine gx_aload_n C hl dX7_isHeld_35 rfl ?_
            obtain ⟨z15, hz15, tz15, h⟩ := h
            have lz15 := (vx1 z15 hz15)
            refine gx_getI C G hz15 lz15 (foA_1 tz15) uw_310 (fun _ h9 => h9) dX7_isHeld_36 ?_
            have r16 := G.r z15 1
            refine gx_icmp_ne (tgt := 74) C r14 r16 dX7_isHeld_39 (by decide) (fun c17 => ?_) (fun c17 => ?_)
            · have h := h.1 c17
              exact b74 (B_X7_isHeld_8 V o x1 x2 Q n) ih y3 y4 S10 H locs ls ry3 vy4 hl G h
            · have h := h.2 c17
              refine gx_aload C hl dX7_isHeld_42 rfl ?_
              refine gv_7_50 C G hl hml hz12 lz12 tz12 h ⟨Nat.le_of_ble_eq_true rfl, Nat.le_of_ble_eq_true rfl⟩ ⟨Nat.zero_le _, Nat.zero_le _⟩ (hw_le ad [] rfl (Nat.le_of_ble_eq_true rfl)) dX7_isHeld_44 (fun t19 S18 H locs rt19 h G => ?_)
              refine gx_if_eq (tgt := 56) C rt19 dX7_isHeld_47 (by decide) (fun c20 => ?_) (fun c20 => ?_)
              · have h := h.1 c20
                exact b56 (B_X7_isHeld_8 V o x1 x2 Q n) ih y3 y4 S18 H locs ls ry3 vy4 hl G h
              · have h := h.2 c20
                refine gx_iload_n C hl dX7_isHeld_50 rfl ?_
                refine gx_if_eq (tgt := 56) C ry3 dX7_isHeld_51 (by decide) (fun c21 => ?_) (fun c21 => ?_)
                · have h := h.1 c21
                  exact b56 (B_X7_isHeld_8 V o x1 x2 Q n) ih y3 y4 S18 H locs ls ry3 vy4 hl G h
                · have h := h.2 c21
                  refine gx_iconst C dX7_isHeld_54 ?_
                  exact gx_zret C G hret (Or.inr rfl) h dX7_isHeld_55
          · have h := h.2 c13
            refine gx_iconst C dX7_isHeld_28 ?_
            exact gx_zret C G hret (Or.inr rfl) h dX7_isHeld_29
  clear eA
  unfold PT_X7_isHeld at h
  refine gx_iload_n C hl dX7_isHeld_0 rfl ?_
  refine gx_istore_n C hl dX7_isHeld_1 (Nat.le_of_ble_eq_true rfl) (PL' := [some (.inr (some o)), some (.inr x1), some (.inl x2), some (.inl x2), none]) rfl (fun ls hl => ?_)
  refine gx_aload_n C hl dX7_isHeld_2 rfl ?_
  refine gx_getP C G rfl (fX7_o hV) (fo6_4 (fX7_c hV)) uw_157 (fun _ h9 => h9) dX7_isHeld_3 ?_
  have v22 := G.v o 4
  refine gx_astore C hl dX7_isHeld_6 (Nat.le_of_ble_eq_true rfl) (PL' := [some (.inr (some o)), some (.inr x1), some (.inl x2), some (.inl x2), some (.inr (S.2 o 4))]) rfl (fun ls hl => ?_)
  obtain ⟨n9, h⟩ := h
  exact b8 n9 x2 (S.2 o 4) S H locs ls rx2 v22 hl G h
def PT_X7_rankOf (V : Vt) (o : Nat) (x1 : Option Nat) (x2 : Int) (x3 : Option Nat) (S : Me) (Q : Int → Me → Prop) : Prop := ((x2 = 1 → ∃ z1 : Nat, x3 = some z1 ∧ fX4 V z1 ∧ ∃ z2 : Nat, x1 = some z2 ∧ isA (V.2.1 z2) ∧ (0 ≤ (S.1 z2 3) ∧ (S.1 z2 3) < 4) ∧ ((¬ (S.1 (z1 + 2) (Int.toNat (S.1 z2 3))) = (S.1 z2 4) → Q 1 S) ∧ ((S.1 (z1 + 2) (Int.toNat (S.1 z2 3))) = (S.1 z2 4) → Q 0 S))) ∧ (x2 = 2 → ∃ z9 : Nat, x1 = some z9 ∧ isA (V.2.1 z9) ∧ (0 ≤ (S.1 z9 1) ∧ (S.1 z9 1) < 4) ∧ (rng ((S.1 (o + 3) (Int.toNat (S.1 z9 1))) * 4)) ∧ (rng (((S.1 (o + 3) (Int.toNat (S.1 z9 1))) * 4) + (S.1 z9 1))) ∧ Q (((S.1 (o + 3) (Int.toNat (S.1 z9 1))) * 4) + (S.1 z9 1)) S) ∧ ((¬ x2 = 1 ∧ ¬ x2 = 2) → Q 0 S))
theorem hd_X7_rankOf : yX7_rankOf.cls ≠ "java/lang/invoke/MethodHandle" ∧ yX7_rankOf.cls ≠ "java/lang/invoke/VarHandle" ∧ (parseMethodDescriptor yX7_rankOf.desc).map (fun d => d.parameters.length) = some 3 := by decide +kernel
set_option maxHeartbeats 4000000 in
set_option maxRecDepth 100000 in
theorem c_X7_rankOf (l : Launch) (D : va_G) (cy : ClassId × ClassId × ClassId × ClassId) (ad : Nat → Nat) {V : Vt} {S : Me} {o : Nat} {x1 : Option Nat} {x2 : Int} {x3 : Option Nat} (hV : fX7 V o) (vx1 : ∀ z, x1 = some z → z < V.1) (rx2 : rng x2) (vx3 : ∀ z, x3 = some z → z < V.1) {Q : Int → Me → Prop} (h : PT_X7_rankOf V o x1 x2 x3 S Q) : KM l D cy yX7_rankOf cX7_rankOf 4 (Option.some Jvm.ClassFile.FieldType.int) 0 0 ad V S [.inr (some o), .inr x1, .inl x2, .inr x3] (qI Q) := by
  refine KM.of (by decide) rfl (Nat.le_of_ble_eq_true rfl) (own := RX7) (fun p e s m args below meth c A ls H locs eA C hret hml hmn hl G => ?_)
  have hl : lo ad ls [some (.inr (some o)), some (.inr x1), some (.inl x2), some (.inr x3)] := hl
  clear eA
  unfold PT_X7_rankOf at h
  refine gx_iload_n C hl dX7_rankOf_0 rfl ?_
  by_cases c8 : x2 = 1
  · refine gx_lookup (tgt := 28) (off := 27) C rx2 dX7_rankOf_1 (by decide) (by first | (rw [c8]; done) | (rw [c8]; rfl)) (by decide) ?_
    have h := h.1 c8
    refine gx_aload_n C hl dX7_rankOf_28 rfl ?_
    obtain ⟨z1, hz1, tz1, h⟩ := h
    have lz1 := (vx3 z1 hz1)
    refine gx_getF C G hz1 lz1 (fo3_1 (fX4_c tz1)) (fX4_openRows tz1) uw_136 (fun _ h9 => h9) dX7_rankOf_29 ?_
    refine gx_aload_n C hl dX7_rankOf_32 rfl ?_
    obtain ⟨z2, hz2, tz2, h⟩ := h
    have lz2 := (vx1 z2 hz2)
    refine gx_getI C G hz2 lz2 (foA_3 tz2) uw_319 (fun _ h9 => h9) dX7_rankOf_33 ?_
    have r3 := G.r z2 3
    obtain ⟨h4, h⟩ := h
    refine gx_iald C G rfl (fX4_openRows_l tz1) (fX4_openRows_t tz1) r3 h4.1 (ixl (fX4_openRows_n tz1) h4.2) dX7_rankOf_36 ?_
    have r5 := G.r (z1 + 2) (Int.toNat (S.1 z2 3))
    refine gx_aload_n C hl dX7_rankOf_37 rfl ?_
    refine gx_getI C G hz2 lz2 (foA_4 tz2) uw_324 (fun _ h9 => h9) dX7_rankOf_38 ?_
    have r6 := G.r z2 4
    refine gx_icmp_ne (tgt := 48) C r5 r6 dX7_rankOf_41 (by decide) (fun c7 => ?_) (fun c7 => ?_)
    · have h := h.1 c7
      refine gx_iconst C dX7_rankOf_48 ?_
      exact gx_iret C G hret (show rng 1 by decide) h dX7_rankOf_49
    · have h := h.2 c7
      refine gx_iconst C dX7_rankOf_44 ?_
      refine gx_goto (tgt := 49) C dX7_rankOf_45 (by decide) ?_
      exact gx_iret C G hret (show rng 0 by decide) h dX7_rankOf_49
  · by_cases c16 : x2 = 2
    · refine gx_lookup (tgt := 50) (off := 49) C rx2 dX7_rankOf_1 (by decide) (by first | (rw [c16]; done) | (rw [c16]; rfl)) (by decide) ?_
      have h := h.2.1 c16
      refine gx_aload_n C hl dX7_rankOf_50 rfl ?_
      refine gx_getF C G rfl (fX7_o hV) (fo6_2 (fX7_c hV)) (fX7_doneOf hV) uw_153 (fun _ h9 => h9) dX7_rankOf_51 ?_
      refine gx_aload_n C hl dX7_rankOf_54 rfl ?_
      obtain ⟨z9, hz9, tz9, h⟩ := h
      have lz9 := (vx1 z9 hz9)
      refine gx_getI C G hz9 lz9 (foA_1 tz9) uw_310 (fun _ h9 => h9) dX7_rankOf_55 ?_
      have r10 := G.r z9 1
      obtain ⟨h11, h⟩ := h
      refine gx_iald C G rfl (fX7_doneOf_l hV) (fX7_doneOf_t hV) r10 h11.1 (ixl (fX7_doneOf_n hV) h11.2) dX7_rankOf_58 ?_
      have r12 := G.r (o + 3) (Int.toNat (S.1 z9 1))
      refine gx_iconst C dX7_rankOf_59 ?_
      obtain ⟨h13, h⟩ := h
      refine gx_imul C dX7_rankOf_60 ?_
      refine gx_aload_n C hl dX7_rankOf_61 rfl ?_
      refine gx_getI C G hz9 lz9 (foA_1 tz9) uw_310 (fun _ h9 => h9) dX7_rankOf_62 ?_
      have r14 := G.r z9 1
      obtain ⟨h15, h⟩ := h
      refine gx_iadd C dX7_rankOf_65 ?_
      exact gx_iret C G hret h15 h dX7_rankOf_66
    · have c17 : ¬ x2 = 1 ∧ ¬ x2 = 2 := by refine ⟨by assumption, by assumption⟩
      refine gx_lookup (tgt := 67) (off := 66) C rx2 dX7_rankOf_1 (by decide) (by simp [Op.lookupswitch.offset, c17, eq_comm]) (by decide) ?_
      have h := h.2.2 c17
      refine gx_iconst C dX7_rankOf_67 ?_
      exact gx_iret C G hret (show rng 0 by decide) h dX7_rankOf_68
def B_X7_insert_29 (V : Vt) (x1 : Option Nat) (x2 : Option Nat) (y2 : Option Nat) (S : Me) (Q : Option Nat → Me → Prop) : Prop := ((¬ y2 = none → ∃ z2 : Nat, y2 = some z2 ∧ isA (V.2.1 z2) ∧ ∃ z4 : Nat, x2 = some z4 ∧ isA (V.2.1 z4) ∧ ∀ S5 : Me, S5 = sP S z4 9 (S.2 z2 9) → ∀ S6 : Me, S6 = sP S5 z2 9 x2 → Q x1 S6) ∧ (y2 = none → ∃ z7 : Nat, x2 = some z7 ∧ isA (V.2.1 z7) ∧ ∀ S8 : Me, S8 = sP S z7 9 x1 → Q x2 S8))
def B_X7_insert_4 (V : Vt) (x1 : Option Nat) (x2 : Option Nat) (Q : Option Nat → Me → Prop) : Nat → (Option Nat → Option Nat → Me → Prop)
  | 0 => fun _ _ _ => False
  | n + 1 => fun y2 y3 S => ((y3 = none → B_X7_insert_29 V x1 x2 y2 S Q) ∧ (¬ y3 = none → ∃ z10 : Nat, y3 = some z10 ∧ isA (V.2.1 z10) ∧ ∃ z12 : Nat, x2 = some z12 ∧ isA (V.2.1 z12) ∧ (((S.1 z12 10) < (S.1 z10 10) → B_X7_insert_29 V x1 x2 y2 S Q) ∧ (¬ (S.1 z12 10) < (S.1 z10 10) → B_X7_insert_4 V x1 x2 Q n y3 (S.2 z10 9) S))))
def PT_X7_insert (V : Vt) (x1 : Option Nat) (x2 : Option Nat) (S : Me) (Q : Option Nat → Me → Prop) : Prop := (∃ n9 : Nat, B_X7_insert_4 V x1 x2 Q n9 none x1 S)
theorem hd_X7_insert : yX7_insert.cls ≠ "java/lang/invoke/MethodHandle" ∧ yX7_insert.cls ≠ "java/lang/invoke/VarHandle" ∧ (parseMethodDescriptor yX7_insert.desc).map (fun d => d.parameters.length) = some 2 := by decide +kernel
set_option maxHeartbeats 4000000 in
set_option maxRecDepth 100000 in
theorem c_X7_insert (l : Launch) (D : va_G) (cy : ClassId × ClassId × ClassId × ClassId) (ad : Nat → Nat) {V : Vt} {S : Me} {x1 : Option Nat} {x2 : Option Nat} (vx1 : ∀ z, x1 = some z → z < V.1) (vx2 : ∀ z, x2 = some z → z < V.1) {Q : Option Nat → Me → Prop} (h : PT_X7_insert V x1 x2 S Q) : KM l D cy yX7_insert cX7_insert 4 (Option.some (Jvm.ClassFile.FieldType.object "RowBank$Ask")) 0 0 ad V S [.inr x1, .inr x2] (qR Q) := by
  refine KM.of (by decide) rfl (Nat.le_of_ble_eq_true rfl) (own := RX7) (fun p e s m args below meth c A ls H locs eA C hret hml hmn hl G => ?_)
  have hl : lo ad ls [some (.inr x1), some (.inr x2), none, none] := hl
  have b29 : ∀ (y2 : Option Nat) (S : Me) (H : Heap) (locs : List Loc) (ls : Array Slot), (∀ z, y2 = some z → z < V.1) → lo ad ls [some (.inr x1), some (.inr x2), some (.inr y2), none] → Gy D cy A s.heap ad V S H locs → B_X7_insert_29 V x1 x2 y2 S Q → W p l e (rmx 0 0) s m args below meth c H locs 0 0 (qm below D cy ad V A args s (qR Q)) (F0 m 29 ls []) := by
    intro y2 S H locs ls vy2 hl G h
    unfold B_X7_insert_29 at h
    refine gx_aload_n C hl dX7_insert_29 rfl ?_
    refine gx_ifnonnull (tgt := 40) C dX7_insert_30 (by decide) (fun c1 => ?_) (fun c1 => ?_)
    · have h := h.1 c1
      refine gx_aload_n C hl dX7_insert_40 rfl ?_
      refine gx_aload_n C hl dX7_insert_41 rfl ?_
      obtain ⟨z2, hz2, tz2, h⟩ := h
      have lz2 := (vy2 z2 hz2)
      refine gx_getP C G hz2 lz2 (foA_9 tz2) uw_339 (fun _ h9 => h9) dX7_insert_42 ?_
      have v3 := G.v z2 9
      obtain ⟨z4, hz4, tz4, h⟩ := h
      have lz4 := (vx2 z4 hz4)
      refine gx_putP C G hz4 lz4 (foA_9 tz4) (Or.inl ⟨_, rfl⟩) v3 uw_339 (fun _ h9 => h9) dX7_insert_45 (fun H locs G => ?_)
      obtain ⟨S5, eS5⟩ : ∃ q9 : Me, q9 = sP S z4 9 (S.2 z2 9) := ⟨_, rfl⟩
      have h := h S5 eS5
      rw [← eS5] at G
      refine gx_aload_n C hl dX7_insert_48 rfl ?_
      refine gx_aload_n C hl dX7_insert_49 rfl ?_
      refine gx_putP C G hz2 lz2 (foA_9 tz2) (Or.inl ⟨_, rfl⟩) vx2 uw_339 (fun _ h9 => h9) dX7_insert_50 (fun H locs G => ?_)
      obtain ⟨S6, eS6⟩ : ∃ q9 : Me, q9 = sP S5 z2 9 x2 := ⟨_, rfl⟩
      have h := h S6 eS6
      rw [← eS6] at G
      refine gx_aload_n C hl dX7_insert_53 rfl ?_
      exact gx_aret C G hret (Or.inl ⟨_, rfl⟩) vx1 h dX7_insert_54
    · have h := h.2 c1
      refine gx_aload_n C hl dX7_insert_33 rfl ?_
      refine gx_aload_n C hl dX7_insert_34 rfl ?_
      obtain ⟨z7, hz7, tz7, h⟩ := h
      have lz7 := (vx2 z7 hz7)
      refine gx_putP C G hz7 lz7 (foA_9 tz7) (Or.inl ⟨_, rfl⟩) vx1 uw_339 (fun _ h9 => h9) dX7_insert_35 (fun H locs G => ?_)
      obtain ⟨S8, eS8⟩ : ∃ q9 : Me, q9 = sP S z7 9 x1 := ⟨_, rfl⟩
      have h := h S8 eS8
      rw [← eS8] at G
      refine gx_aload_n C hl dX7_insert_38 rfl ?_
      exact gx_aret C G hret (Or.inl ⟨_, rfl⟩) vx2 h dX7_insert_39
  have b4 : ∀ (n : Nat) (y2 : Option Nat) (y3 : Option Nat) (S : Me) (H : Heap) (locs : List Loc) (ls : Array Slot), (∀ z, y2 = some z → z < V.1) → (∀ z, y3 = some z → z < V.1) → lo ad ls [some (.inr x1), some (.inr x2), some (.inr y2), some (.inr y3)] → Gy D cy A s.heap ad V S H locs → B_X7_insert_4 V x1 x2 Q n y2 y3 S → W p l e (rmx 0 0) s m args below meth c H locs 0 0 (qm below D cy ad V A args s (qR Q)) (F0 m 4 ls []) := by
    intro n
    induction n with
    | zero =>
      intro y2 y3 S H locs ls vy2 vy3 hl G h
      exact absurd h id
    | succ n ih =>
      intro y2 y3 S H locs ls vy2 vy3 hl G h
      rw [B_X7_insert_4] at h
      refine gx_aload_n C hl dX7_insert_4 rfl ?_
      refine gx_ifnull (tgt := 29) C dX7_insert_5 (by decide) (fun c9 => ?_) (fun c9 => ?_)
      · have h := h.1 c9
        exact b29 y2 S H locs ls vy2 (lo_mask (bs := [true, true, true, false]) hl rfl rfl) G h
      · have h := h.2 c9
        refine gx_aload_n C hl dX7_insert_8 rfl ?_
        obtain ⟨z10, hz10, tz10, h⟩ := h
        have lz10 := (vy3 z10 hz10)
        refine gx_getI C G hz10 lz10 (foA_10 tz10) uw_342 (fun _ h9 => h9) dX7_insert_9 ?_
        have r11 := G.r z10 10
        refine gx_aload_n C hl dX7_insert_12 rfl ?_
        obtain ⟨z12, hz12, tz12, h⟩ := h
        have lz12 := (vx2 z12 hz12)
        refine gx_getI C G hz12 lz12 (foA_10 tz12) uw_342 (fun _ h9 => h9) dX7_insert_13 ?_
        have r13 := G.r z12 10
        refine gx_icmp_gt (tgt := 29) C r11 r13 dX7_insert_16 (by decide) (fun c14 => ?_) (fun c14 => ?_)
        · have h := h.1 c14
          exact b29 y2 S H locs ls vy2 (lo_mask (bs := [true, true, true, false]) hl rfl rfl) G h
        · have h := h.2 c14
          refine gx_aload_n C hl dX7_insert_19 rfl ?_
          refine gx_astore_n C hl dX7_insert_20 (Nat.le_of_ble_eq_true rfl) (PL' := [some (.inr x1), some (.inr x2), some (.inr y3), some (.inr y3)]) rfl (fun ls hl => ?_)
          refine gx_aload_n C hl dX7_insert_21 rfl ?_
          refine gx_getP C G hz10 lz10 (foA_9 tz10) uw_339 (fun _ h9 => h9) dX7_insert_22 ?_
          have v15 := G.v z10 9
          refine gx_astore_n C hl dX7_insert_25 (Nat.le_of_ble_eq_true rfl) (PL' := [some (.inr x1), some (.inr x2), some (.inr y3), some (.inr (S.2 z10 9))]) rfl (fun ls hl => ?_)
          refine gx_goto (tgt := 4) C dX7_insert_26 (by decide) ?_
          exact ih y3 (S.2 z10 9) S H locs ls vy3 v15 hl G h
  clear eA
  unfold PT_X7_insert at h
  refine gx_null (ad := ad) C dX7_insert_0 ?_
  refine gx_astore_n C hl dX7_insert_1 (Nat.le_of_ble_eq_true rfl) (PL' := [some (.inr x1), some (.inr x2), some (.inr none), none]) rfl (fun ls hl => ?_)
  refine gx_aload_n C hl dX7_insert_2 rfl ?_
  refine gx_astore_n C hl dX7_insert_3 (Nat.le_of_ble_eq_true rfl) (PL' := [some (.inr x1), some (.inr x2), some (.inr none), some (.inr x1)]) rfl (fun ls hl => ?_)
  obtain ⟨n9, h⟩ := h
  exact b4 n9 none x1 S H locs ls vnone vx1 hl G h
def B_X7_arrange_78 (V : Vt) (o : Nat) (x1 : Int) (x2 : Int) (x3 : Option Nat) (K34 : Int → Option Nat → Option Nat → Me → Prop) (y4 : Int) (y5 : Option Nat) (y6 : Option Nat) (S : Me) (Q : Option Nat → Me → Prop) : Prop := ∃ z1 : Nat, y6 = some z1 ∧ isA (V.2.1 z1) ∧ K34 y4 y5 (S.2 z1 8) S
def B_X7_arrange_66 (V : Vt) (o : Nat) (x1 : Int) (x2 : Int) (x3 : Option Nat) (K34 : Int → Option Nat → Option Nat → Me → Prop) (y4 : Int) (y5 : Option Nat) (y6 : Option Nat) (w0 : Option Nat) (w1 : Int) (S : Me) (Q : Option Nat → Me → Prop) : Prop := ∃ z3 : Nat, w0 = some z3 ∧ isA (V.2.1 z3) ∧ ∀ S4 : Me, S4 = sI S z3 10 w1 → PT_X7_insert V y5 y6 S4 (fun t6 S5 => B_X7_arrange_78 V o x1 x2 x3 K34 y4 t6 y6 S5 Q)
def B_X7_arrange_34 (V : Vt) (o : Nat) (x1 : Int) (x2 : Int) (x3 : Option Nat) (Q : Option Nat → Me → Prop) : Nat → (Int → Option Nat → Option Nat → Me → Prop)
  | 0 => fun _ _ _ _ => False
  | n + 1 => fun y4 y5 y6 S => ((y6 = none → Q y5 S) ∧ (¬ y6 = none → ∃ z10 : Nat, y6 = some z10 ∧ isA (V.2.1 z10) ∧ PV_isFence V z10 S (fun t9 S8 => ((¬ t9 = 0 → B_X7_arrange_78 V o x1 x2 x3 (B_X7_arrange_34 V o x1 x2 x3 Q n) y4 y5 y6 S8 Q) ∧ (t9 = 0 → ((y4 = 0 → PT_X7_rankOf V o y6 x1 x3 S8 (fun t14 S13 => B_X7_arrange_66 V o x1 x2 x3 (B_X7_arrange_34 V o x1 x2 x3 Q n) y4 y5 y6 y6 t14 S13 Q)) ∧ (¬ y4 = 0 → B_X7_arrange_66 V o x1 x2 x3 (B_X7_arrange_34 V o x1 x2 x3 Q n) y4 y5 y6 y6 0 S8 Q)))))))
def B_X7_arrange_23 (V : Vt) (o : Nat) (x1 : Int) (x2 : Int) (x3 : Option Nat) (w0 : Int) (S : Me) (Q : Option Nat → Me → Prop) : Prop := (∃ n9 : Nat, B_X7_arrange_34 V o x1 x2 x3 Q n9 w0 none (S.2 o 4) S)
def B_X7_arrange_22 (V : Vt) (o : Nat) (x1 : Int) (x2 : Int) (x3 : Option Nat) (S : Me) (Q : Option Nat → Me → Prop) : Prop := B_X7_arrange_23 V o x1 x2 x3 0 S Q
def PT_X7_arrange (V : Vt) (o : Nat) (x1 : Int) (x2 : Int) (x3 : Option Nat) (S : Me) (Q : Option Nat → Me → Prop) : Prop := ((¬ x1 = 1 → B_X7_arrange_22 V o x1 x2 x3 S Q) ∧ (x1 = 1 → (rng ((S.1 o 9) - (S.1 o 10))) ∧ ((((S.1 o 9) - (S.1 o 10)) < x2 → B_X7_arrange_22 V o x1 x2 x3 S Q) ∧ (¬ ((S.1 o 9) - (S.1 o 10)) < x2 → B_X7_arrange_23 V o x1 x2 x3 1 S Q))))
theorem hd_X7_arrange : yX7_arrange.cls ≠ "java/lang/invoke/MethodHandle" ∧ yX7_arrange.cls ≠ "java/lang/invoke/VarHandle" ∧ (parseMethodDescriptor yX7_arrange.desc).map (fun d => d.parameters.length) = some 3 := by decide +kernel
set_option maxHeartbeats 4000000 in
set_option maxRecDepth 100000 in
theorem c_X7_arrange (l : Launch) (D : va_G) (cy : ClassId × ClassId × ClassId × ClassId) (ad : Nat → Nat) {V : Vt} {S : Me} {o : Nat} {x1 : Int} {x2 : Int} {x3 : Option Nat} (hV : fX7 V o) (rx1 : rng x1) (rx2 : rng x2) (vx3 : ∀ z, x3 = some z → z < V.1) {Q : Option Nat → Me → Prop} (h : PT_X7_arrange V o x1 x2 x3 S Q) : KM l D cy yX7_arrange cX7_arrange 7 (Option.some (Jvm.ClassFile.FieldType.object "RowBank$Ask")) 2 40 ad V S [.inr (some o), .inl x1, .inl x2, .inr x3] (qR Q) := by
  refine KM.of (by decide) rfl (Nat.le_of_ble_eq_true rfl) (own := RX7) (fun p e s m args below meth c A ls H locs eA C hret hml hmn hl G => ?_)
  have hl : lo ad ls [some (.inr (some o)), some (.inl x1), some (.inl x2), some (.inr x3), none, none, none] := hl
  have b78 : ∀ (K34 : Int → Option Nat → Option Nat → Me → Prop) (hK34 : ∀ (y4 : Int) (y5 : Option Nat) (y6 : Option Nat) (S : Me) (H : Heap) (locs : List Loc) (ls : Array Slot), rng y4 → (∀ z, y5 = some z → z < V.1) → (∀ z, y6 = some z → z < V.1) → lo ad ls [some (.inr (some o)), some (.inl x1), some (.inl x2), some (.inr x3), some (.inl y4), some (.inr y5), some (.inr y6)] → Gy D cy A s.heap ad V S H locs → K34 y4 y5 y6 S → W p l e (rmx 2 40) s m args below meth c H locs 0 0 (qm below D cy ad V A args s (qR Q)) (F0 m 34 ls [])) (y4 : Int) (y5 : Option Nat) (y6 : Option Nat) (S : Me) (H : Heap) (locs : List Loc) (ls : Array Slot), rng y4 → (∀ z, y5 = some z → z < V.1) → (∀ z, y6 = some z → z < V.1) → lo ad ls [some (.inr (some o)), some (.inl x1), some (.inl x2), some (.inr x3), some (.inl y4), some (.inr y5), some (.inr y6)] → Gy D cy A s.heap ad V S H locs → B_X7_arrange_78 V o x1 x2 x3 K34 y4 y5 y6 S Q → W p l e (rmx 2 40) s m args below meth c H locs 0 0 (qm below D cy ad V A args s (qR Q)) (F0 m 78 ls []) := by
    intro K34 hK34 y4 y5 y6 S H locs ls ry4 vy5 vy6 hl G h
    unfold B_X7_arrange_78 at h
    refine gx_aload C hl dX7_arrange_78 rfl ?_
    obtain ⟨z1, hz1, tz1, h⟩ := h
    have lz1 := (vy6 z1 hz1)
    refine gx_getP C G hz1 lz1 (foA_8 tz1) uw_337 (fun _ h9 => h9) dX7_arrange_80 ?_
    have v2 := G.v z1 8
    refine gx_astore C hl dX7_arrange_83 (Nat.le_of_ble_eq_true rfl) (PL' := [some (.inr (some o)), some (.inl x1), some (.inl x2), some (.inr x3), some (.inl y4), some (.inr y5), some (.inr (S.2 z1 8))]) rfl (fun ls hl => ?_)
    refine gx_goto (tgt := 34) C dX7_arrange_85 (by decide) ?_
    exact hK34 y4 y5 (S.2 z1 8) S H locs ls ry4 vy5 v2 hl G h
  have b66 : ∀ (K34 : Int → Option Nat → Option Nat → Me → Prop) (hK34 : ∀ (y4 : Int) (y5 : Option Nat) (y6 : Option Nat) (S : Me) (H : Heap) (locs : List Loc) (ls : Array Slot), rng y4 → (∀ z, y5 = some z → z < V.1) → (∀ z, y6 = some z → z < V.1) → lo ad ls [some (.inr (some o)), some (.inl x1), some (.inl x2), some (.inr x3), some (.inl y4), some (.inr y5), some (.inr y6)] → Gy D cy A s.heap ad V S H locs → K34 y4 y5 y6 S → W p l e (rmx 2 40) s m args below meth c H locs 0 0 (qm below D cy ad V A args s (qR Q)) (F0 m 34 ls [])) (y4 : Int) (y5 : Option Nat) (y6 : Option Nat) (w0 : Option Nat) (w1 : Int) (S : Me) (H : Heap) (locs : List Loc) (ls : Array Slot), rng y4 → (∀ z, y5 = some z → z < V.1) → (∀ z, y6 = some z → z < V.1) → (∀ z, w0 = some z → z < V.1) → rng w1 → lo ad ls [some (.inr (some o)), some (.inl x1), some (.inl x2), some (.inr x3), some (.inl y4), some (.inr y5), some (.inr y6)] → Gy D cy A s.heap ad V S H locs → B_X7_arrange_66 V o x1 x2 x3 K34 y4 y5 y6 w0 w1 S Q → W p l e (rmx 2 40) s m args below meth c H locs 0 0 (qm below D cy ad V A args s (qR Q)) (F0 m 66 ls [vI w1, vR ad w0]) := by
    intro K34 hK34 y4 y5 y6 w0 w1 S H locs ls ry4 vy5 vy6 vw0 rw1 hl G h
    unfold B_X7_arrange_66 at h
    obtain ⟨z3, hz3, tz3, h⟩ := h
    have lz3 := (vw0 z3 hz3)
    refine gx_putI C G hz3 lz3 (foA_10 tz3) rw1 uw_342 (fun _ h9 => h9) dX7_arrange_66 (fun H locs G => ?_)
    obtain ⟨S4, eS4⟩ : ∃ q9 : Me, q9 = sI S z3 10 w1 := ⟨_, rfl⟩
    have h := h S4 eS4
    rw [← eS4] at G
    refine gx_aload C hl dX7_arrange_69 rfl ?_
    refine gx_aload C hl dX7_arrange_71 rfl ?_
    refine gx_callS C G hl hml (c_X7_insert l D cy ad vy5 vy6 h) uw_563 uw_561 uw_562 uw_6 hd_X7_insert ⟨Nat.le_of_ble_eq_true rfl, Nat.le_of_ble_eq_true rfl⟩ ⟨Nat.zero_le _, Nat.zero_le _⟩ rfl rfl (hw_le ad [] rfl (Nat.le_of_ble_eq_true rfl)) dX7_arrange_73 (kkR (fun t6 S5 H locs vt6 h G => ?_))
    refine gx_astore C hl dX7_arrange_76 (Nat.le_of_ble_eq_true rfl) (PL' := [some (.inr (some o)), some (.inl x1), some (.inl x2), some (.inr x3), some (.inl y4), some (.inr t6), some (.inr y6)]) rfl (fun ls hl => ?_)
    exact b78 K34 hK34 y4 t6 y6 S5 H locs ls ry4 vt6 vy6 hl G h
  have b34 : ∀ (n : Nat) (y4 : Int) (y5 : Option Nat) (y6 : Option Nat) (S : Me) (H : Heap) (locs : List Loc) (ls : Array Slot), rng y4 → (∀ z, y5 = some z → z < V.1) → (∀ z, y6 = some z → z < V.1) → lo ad ls [some (.inr (some o)), some (.inl x1), some (.inl x2), some (.inr x3), some (.inl y4), some (.inr y5), some (.inr y6)] → Gy D cy A s.heap ad V S H locs → B_X7_arrange_34 V o x1 x2 x3 Q n y4 y5 y6 S → W p l e (rmx 2 40) s m args below meth c H locs 0 0 (qm below D cy ad V A args s (qR Q)) (F0 m 34 ls []) := by
    intro n
    induction n with
    | zero =>
      intro y4 y5 y6 S H locs ls ry4 vy5 vy6 hl G h
      exact absurd h id
    | succ n ih =>
      intro y4 y5 y6 S H locs ls ry4 vy5 vy6 hl G h
      rw [B_X7_arrange_34] at h
      refine gx_aload C hl dX7_arrange_34 rfl ?_
      refine gx_ifnull (tgt := 88) C dX7_arrange_36 (by decide) (fun c7 => ?_) (fun c7 => ?_)
      · have h := h.1 c7
        refine gx_aload C hl dX7_arrange_88 rfl ?_
        exact gx_aret C G hret (Or.inl ⟨_, rfl⟩) vy5 h dX7_arrange_90
      · have h := h.2 c7
        refine gx_aload C hl dX7_arrange_39 rfl ?_
        obtain ⟨z10, hz10, tz10, h⟩ := h
        have lz10 := (vy6 z10 hz10)
        refine gv_7_50 C G hl hml hz10 lz10 tz10 h ⟨Nat.le_of_ble_eq_true rfl, Nat.le_of_ble_eq_true rfl⟩ ⟨Nat.zero_le _, Nat.zero_le _⟩ (hw_le ad [] rfl (Nat.le_of_ble_eq_true rfl)) dX7_arrange_41 (fun t9 S8 H locs rt9 h G => ?_)
        refine gx_if_ne (tgt := 78) C rt9 dX7_arrange_44 (by decide) (fun c11 => ?_) (fun c11 => ?_)
        · have h := h.1 c11
          exact b78 (B_X7_arrange_34 V o x1 x2 x3 Q n) ih y4 y5 y6 S8 H locs ls ry4 vy5 vy6 hl G h
        · have h := h.2 c11
          refine gx_aload C hl dX7_arrange_47 rfl ?_
          refine gx_iload C hl dX7_arrange_49 rfl ?_
          refine gx_if_eq (tgt := 58) C ry4 dX7_arrange_51 (by decide) (fun c12 => ?_) (fun c12 => ?_)
          · have h := h.1 c12
            refine gx_aload_n C hl dX7_arrange_58 rfl ?_
            refine gx_aload C hl dX7_arrange_59 rfl ?_
            refine gx_iload_n C hl dX7_arrange_61 rfl ?_
            refine gx_aload_n C hl dX7_arrange_62 rfl ?_
            refine gx_callV C G hl hml (c_X7_rankOf l D cy ad hV vy6 rx1 vx3 h) rfl (fX7_o hV) (by rw [(fX7_c hV)]; rfl) (by rw [(fX7_c hV)]; decide) rfl uw_560 uw_557 uw_559 up_10 uw_6 hd_X7_rankOf ⟨Nat.le_of_ble_eq_true rfl, Nat.le_of_ble_eq_true rfl⟩ ⟨Nat.zero_le _, Nat.zero_le _⟩ rfl rfl (hw_le ad [.inr y6] rfl (Nat.le_of_ble_eq_true rfl)) dX7_arrange_63 (kkI (fun t14 S13 H locs rt14 h G => ?_))
            exact b66 (B_X7_arrange_34 V o x1 x2 x3 Q n) ih y4 y5 y6 y6 t14 S13 H locs ls ry4 vy5 vy6 vy6 rt14 hl G h
          · have h := h.2 c12
            refine gx_iconst C dX7_arrange_54 ?_
            refine gx_goto (tgt := 66) C dX7_arrange_55 (by decide) ?_
            exact b66 (B_X7_arrange_34 V o x1 x2 x3 Q n) ih y4 y5 y6 y6 0 S8 H locs ls ry4 vy5 vy6 vy6 (show rng 0 by decide) hl G h
  have b23 : ∀ (w0 : Int) (S : Me) (H : Heap) (locs : List Loc) (ls : Array Slot), rng w0 → lo ad ls [some (.inr (some o)), some (.inl x1), some (.inl x2), some (.inr x3), none, none, none] → Gy D cy A s.heap ad V S H locs → B_X7_arrange_23 V o x1 x2 x3 w0 S Q → W p l e (rmx 2 40) s m args below meth c H locs 0 0 (qm below D cy ad V A args s (qR Q)) (F0 m 23 ls [vI w0]) := by
    intro w0 S H locs ls rw0 hl G h
    unfold B_X7_arrange_23 at h
    refine gx_istore C hl dX7_arrange_23 (Nat.le_of_ble_eq_true rfl) (PL' := [some (.inr (some o)), some (.inl x1), some (.inl x2), some (.inr x3), some (.inl w0), none, none]) rfl (fun ls hl => ?_)
    refine gx_null (ad := ad) C dX7_arrange_25 ?_
    refine gx_astore C hl dX7_arrange_26 (Nat.le_of_ble_eq_true rfl) (PL' := [some (.inr (some o)), some (.inl x1), some (.inl x2), some (.inr x3), some (.inl w0), some (.inr none), none]) rfl (fun ls hl => ?_)
    refine gx_aload_n C hl dX7_arrange_28 rfl ?_
    refine gx_getP C G rfl (fX7_o hV) (fo6_4 (fX7_c hV)) uw_157 (fun _ h9 => h9) dX7_arrange_29 ?_
    have v15 := G.v o 4
    refine gx_astore C hl dX7_arrange_32 (Nat.le_of_ble_eq_true rfl) (PL' := [some (.inr (some o)), some (.inl x1), some (.inl x2), some (.inr x3), some (.inl w0), some (.inr none), some (.inr (S.2 o 4))]) rfl (fun ls hl => ?_)
    obtain ⟨n9, h⟩ := h
    exact b34 n9 w0 none (S.2 o 4) S H locs ls rw0 vnone v15 hl G h
  have b22 : ∀ (S : Me) (H : Heap) (locs : List Loc) (ls : Array Slot), lo ad ls [some (.inr (some o)), some (.inl x1), some (.inl x2), some (.inr x3), none, none, none] → Gy D cy A s.heap ad V S H locs → B_X7_arrange_22 V o x1 x2 x3 S Q → W p l e (rmx 2 40) s m args below meth c H locs 0 0 (qm below D cy ad V A args s (qR Q)) (F0 m 22 ls []) := by
    intro S H locs ls hl G h
    unfold B_X7_arrange_22 at h
    refine gx_iconst C dX7_arrange_22 ?_
    exact b23 0 S H locs ls (show rng 0 by decide) hl G h
  clear eA
  unfold PT_X7_arrange at h
  refine gx_iload_n C hl dX7_arrange_0 rfl ?_
  refine gx_iconst C dX7_arrange_1 ?_
  refine gx_icmp_ne (tgt := 22) C rx1 (show rng 1 by decide) dX7_arrange_2 (by decide) (fun c16 => ?_) (fun c16 => ?_)
  · have h := h.1 c16
    exact b22 S H locs ls hl G h
  · have h := h.2 c16
    refine gx_aload_n C hl dX7_arrange_5 rfl ?_
    refine gx_getI C G rfl (fX7_o hV) (fo6_9 (fX7_c hV)) uw_165 (fun _ h9 => h9) dX7_arrange_6 ?_
    have r17 := G.r o 9
    refine gx_aload_n C hl dX7_arrange_9 rfl ?_
    refine gx_getI C G rfl (fX7_o hV) (fo6_10 (fX7_c hV)) uw_166 (fun _ h9 => h9) dX7_arrange_10 ?_
    have r18 := G.r o 10
    obtain ⟨h19, h⟩ := h
    refine gx_isub C dX7_arrange_13 ?_
    refine gx_iload_n C hl dX7_arrange_14 rfl ?_
    refine gx_icmp_lt (tgt := 22) C h19 rx2 dX7_arrange_15 (by decide) (fun c20 => ?_) (fun c20 => ?_)
    · have h := h.1 c20
      exact b22 S H locs ls hl G h
    · have h := h.2 c20
      refine gx_iconst C dX7_arrange_18 ?_
      refine gx_goto (tgt := 23) C dX7_arrange_19 (by decide) ?_
      exact b23 1 S H locs ls (show rng 1 by decide) hl G h
def B_X7_isAsIfInTurn_138 (V : Vt) (o : Nat) (x1 : Option Nat) (K92 : Int → Me → Prop) (y2 : Int) (S : Me) (Q : Int → Me → Prop) : Prop := (rng (y2 + 1)) ∧ K92 (y2 + 1) S
def B_X7_isAsIfInTurn_92 (V : Vt) (o : Nat) (x1 : Option Nat) (Q : Int → Me → Prop) : Nat → (Int → Me → Prop)
  | 0 => fun _ _ => False
  | n + 1 => fun y2 S => (((S.1 o 6) ≤ y2 → Q 1 S) ∧ (¬ (S.1 o 6) ≤ y2 → (0 ≤ y2 ∧ y2 < 400) ∧ (((S.2 (o + 1) (Int.toNat y2)) = none → B_X7_isAsIfInTurn_138 V o x1 (B_X7_isAsIfInTurn_92 V o x1 Q n) y2 S Q) ∧ (¬ (S.2 (o + 1) (Int.toNat y2)) = none → ∃ z9 : Nat, (S.2 (o + 1) (Int.toNat y2)) = some z9 ∧ isA (V.2.1 z9) ∧ PV_isFence V z9 S (fun t8 S7 => ((¬ t8 = 0 → B_X7_isAsIfInTurn_138 V o x1 (B_X7_isAsIfInTurn_92 V o x1 Q n) y2 S7 Q) ∧ (t8 = 0 → (0 ≤ (S7.1 z9 2) ∧ (S7.1 z9 2) < 1024) ∧ ∃ z15 : Nat, x1 = some z15 ∧ V.2.1 z15 = 12 ∧ (0 ≤ (S7.1 z9 2) ∧ (S7.1 z9 2) < (V.2.2.1 z15 : Int)) ∧ (((S7.1 (o + 2) (Int.toNat (S7.1 z9 2))) = (S7.1 z15 (Int.toNat (S7.1 z9 2))) → B_X7_isAsIfInTurn_138 V o x1 (B_X7_isAsIfInTurn_92 V o x1 Q n) y2 S7 Q) ∧ (¬ (S7.1 (o + 2) (Int.toNat (S7.1 z9 2))) = (S7.1 z15 (Int.toNat (S7.1 z9 2))) → Q 0 S7)))))))))
def B_X7_isAsIfInTurn_84 (V : Vt) (o : Nat) (x1 : Option Nat) (K10 : Int → Me → Prop) (y2 : Int) (S : Me) (Q : Int → Me → Prop) : Prop := (rng (y2 + 1)) ∧ K10 (y2 + 1) S
def B_X7_isAsIfInTurn_10 (V : Vt) (o : Nat) (x1 : Option Nat) (Q : Int → Me → Prop) : Nat → (Int → Me → Prop)
  | 0 => fun _ _ => False
  | n + 1 => fun y2 S => (((S.1 o 6) ≤ y2 → (∃ n9 : Nat, B_X7_isAsIfInTurn_92 V o x1 Q n9 0 S)) ∧ (¬ (S.1 o 6) ≤ y2 → (0 ≤ y2 ∧ y2 < 400) ∧ (((S.2 (o + 1) (Int.toNat y2)) = none → B_X7_isAsIfInTurn_84 V o x1 (B_X7_isAsIfInTurn_10 V o x1 Q n) y2 S Q) ∧ (¬ (S.2 (o + 1) (Int.toNat y2)) = none → ∃ z25 : Nat, (S.2 (o + 1) (Int.toNat y2)) = some z25 ∧ isA (V.2.1 z25) ∧ (((S.1 z25 6) = 0 → B_X7_isAsIfInTurn_84 V o x1 (B_X7_isAsIfInTurn_10 V o x1 Q n) y2 S Q) ∧ (¬ (S.1 z25 6) = 0 → PV_isFence V z25 S (fun t29 S28 => ((¬ t29 = 0 → B_X7_isAsIfInTurn_84 V o x1 (B_X7_isAsIfInTurn_10 V o x1 Q n) y2 S28 Q) ∧ (t29 = 0 → (0 ≤ (S28.1 z25 2) ∧ (S28.1 z25 2) < 1024) ∧ PV_answerFrom V z25 (S28.1 (o + 2) (Int.toNat (S28.1 z25 2))) S28 (fun t35 S34 => ((t35 = (S34.1 z25 7) → PV_octetAfter V z25 (S28.1 (o + 2) (Int.toNat (S28.1 z25 2))) S34 (fun t40 S39 => (0 ≤ (S34.1 z25 2) ∧ (S34.1 z25 2) < 1024) ∧ ∀ S42 : Me, S42 = sI S39 (o + 2) (Int.toNat (S34.1 z25 2)) t40 → B_X7_isAsIfInTurn_84 V o x1 (B_X7_isAsIfInTurn_10 V o x1 Q n) y2 S42 Q)) ∧ (¬ t35 = (S34.1 z25 7) → Q 0 S34))))))))))))
def PT_X7_isAsIfInTurn (V : Vt) (o : Nat) (x1 : Option Nat) (S : Me) (Q : Int → Me → Prop) : Prop := PT_J7_fill_53178 V (some (o + 2)) 0 S (fun S43 => (∃ n9 : Nat, B_X7_isAsIfInTurn_10 V o x1 Q n9 0 S43))
theorem hd_X7_isAsIfInTurn : yX7_isAsIfInTurn.cls ≠ "java/lang/invoke/MethodHandle" ∧ yX7_isAsIfInTurn.cls ≠ "java/lang/invoke/VarHandle" ∧ (parseMethodDescriptor yX7_isAsIfInTurn.desc).map (fun d => d.parameters.length) = some 1 := by decide +kernel
set_option maxHeartbeats 4000000 in
set_option maxRecDepth 100000 in
theorem c_X7_isAsIfInTurn (l : Launch) (D : va_G) (cy : ClassId × ClassId × ClassId × ClassId) (ad : Nat → Nat) {V : Vt} {S : Me} {o : Nat} {x1 : Option Nat} (hV : fX7 V o) (vx1 : ∀ z, x1 = some z → z < V.1) {Q : Int → Me → Prop} (h : PT_X7_isAsIfInTurn V o x1 S Q) : KM l D cy yX7_isAsIfInTurn cX7_isAsIfInTurn 5 (Option.some Jvm.ClassFile.FieldType.boolean) 2 40 ad V S [.inr (some o), .inr x1] (qI Q) := by
  refine KM.of (by decide) rfl (Nat.le_of_ble_eq_true rfl) (own := RX7) (fun p e s m args below meth c A ls H locs eA C hret hml hmn hl G => ?_)
  have hl : lo ad ls [some (.inr (some o)), some (.inr x1), none, none, none] := hl
  have b138 : ∀ (K92 : Int → Me → Prop) (hK92 : ∀ (y2 : Int) (S : Me) (H : Heap) (locs : List Loc) (ls : Array Slot), rng y2 → lo ad ls [some (.inr (some o)), some (.inr x1), some (.inl y2), none, none] → Gy D cy A s.heap ad V S H locs → K92 y2 S → W p l e (rmx 2 40) s m args below meth c H locs 0 0 (qm below D cy ad V A args s (qI Q)) (F0 m 92 ls [])) (y2 : Int) (S : Me) (H : Heap) (locs : List Loc) (ls : Array Slot), rng y2 → lo ad ls [some (.inr (some o)), some (.inr x1), some (.inl y2), none, none] → Gy D cy A s.heap ad V S H locs → B_X7_isAsIfInTurn_138 V o x1 K92 y2 S Q → W p l e (rmx 2 40) s m args below meth c H locs 0 0 (qm below D cy ad V A args s (qI Q)) (F0 m 138 ls []) := by
    intro K92 hK92 y2 S H locs ls ry2 hl G h
    unfold B_X7_isAsIfInTurn_138 at h
    obtain ⟨h1, h⟩ := h
    refine gx_iinc C hl dX7_isAsIfInTurn_138 rfl (PL' := [some (.inr (some o)), some (.inr x1), some (.inl (y2 + 1)), none, none]) rfl (fun ls hl => ?_)
    refine gx_goto (tgt := 92) C dX7_isAsIfInTurn_141 (by decide) ?_
    exact hK92 (y2 + 1) S H locs ls h1 hl G h
  have b92 : ∀ (n : Nat) (y2 : Int) (S : Me) (H : Heap) (locs : List Loc) (ls : Array Slot), rng y2 → lo ad ls [some (.inr (some o)), some (.inr x1), some (.inl y2), none, none] → Gy D cy A s.heap ad V S H locs → B_X7_isAsIfInTurn_92 V o x1 Q n y2 S → W p l e (rmx 2 40) s m args below meth c H locs 0 0 (qm below D cy ad V A args s (qI Q)) (F0 m 92 ls []) := by
    intro n
    induction n with
    | zero =>
      intro y2 S H locs ls ry2 hl G h
      exact absurd h id
    | succ n ih =>
      intro y2 S H locs ls ry2 hl G h
      rw [B_X7_isAsIfInTurn_92] at h
      refine gx_iload_n C hl dX7_isAsIfInTurn_92 rfl ?_
      refine gx_aload_n C hl dX7_isAsIfInTurn_93 rfl ?_
      refine gx_getI C G rfl (fX7_o hV) (fo6_6 (fX7_c hV)) uw_159 (fun _ h9 => h9) dX7_isAsIfInTurn_94 ?_
      have r2 := G.r o 6
      refine gx_icmp_ge (tgt := 144) C ry2 r2 dX7_isAsIfInTurn_97 (by decide) (fun c3 => ?_) (fun c3 => ?_)
      · have h := h.1 c3
        refine gx_iconst C dX7_isAsIfInTurn_144 ?_
        exact gx_zret C G hret (Or.inr rfl) h dX7_isAsIfInTurn_145
      · have h := h.2 c3
        refine gx_aload_n C hl dX7_isAsIfInTurn_100 rfl ?_
        refine gx_getF C G rfl (fX7_o hV) (fo6_0 (fX7_c hV)) (fX7_all hV) uw_151 (fun _ h9 => h9) dX7_isAsIfInTurn_101 ?_
        refine gx_iload_n C hl dX7_isAsIfInTurn_104 rfl ?_
        obtain ⟨h4, h⟩ := h
        refine gx_aald C G rfl (fX7_all_l hV) (Or.inl (fX7_all_t hV)) ry2 h4.1 (ixl (fX7_all_n hV) h4.2) dX7_isAsIfInTurn_105 ?_
        have v5 := G.v (o + 1) (Int.toNat y2)
        refine gx_astore_n C hl dX7_isAsIfInTurn_106 (Nat.le_of_ble_eq_true rfl) (PL' := [some (.inr (some o)), some (.inr x1), some (.inl y2), some (.inr (S.2 (o + 1) (Int.toNat y2))), none]) rfl (fun ls hl => ?_)
        refine gx_aload_n C hl dX7_isAsIfInTurn_107 rfl ?_
        refine gx_ifnull (tgt := 138) C dX7_isAsIfInTurn_108 (by decide) (fun c6 => ?_) (fun c6 => ?_)
        · have h := h.1 c6
          exact b138 (B_X7_isAsIfInTurn_92 V o x1 Q n) ih y2 S H locs ls ry2 (lo_mask (bs := [true, true, true, false, false]) hl rfl rfl) G h
        · have h := h.2 c6
          refine gx_aload_n C hl dX7_isAsIfInTurn_111 rfl ?_
          obtain ⟨z9, hz9, tz9, h⟩ := h
          have lz9 := (v5 z9 hz9)
          refine gv_7_50 C G hl hml hz9 lz9 tz9 h ⟨Nat.le_of_ble_eq_true rfl, Nat.le_of_ble_eq_true rfl⟩ ⟨Nat.zero_le _, Nat.zero_le _⟩ (hw_le ad [] rfl (Nat.le_of_ble_eq_true rfl)) dX7_isAsIfInTurn_112 (fun t8 S7 H locs rt8 h G => ?_)
          refine gx_if_ne (tgt := 138) C rt8 dX7_isAsIfInTurn_115 (by decide) (fun c10 => ?_) (fun c10 => ?_)
          · have h := h.1 c10
            exact b138 (B_X7_isAsIfInTurn_92 V o x1 Q n) ih y2 S7 H locs ls ry2 (lo_mask (bs := [true, true, true, false, false]) hl rfl rfl) G h
          · have h := h.2 c10
            refine gx_aload_n C hl dX7_isAsIfInTurn_118 rfl ?_
            refine gx_getF C G rfl (fX7_o hV) (fo6_1 (fX7_c hV)) (fX7_plainOctets hV) uw_152 (fun _ h9 => h9) dX7_isAsIfInTurn_119 ?_
            refine gx_aload_n C hl dX7_isAsIfInTurn_122 rfl ?_
            refine gx_getI C G hz9 lz9 (foA_2 tz9) uw_315 (fun _ h9 => h9) dX7_isAsIfInTurn_123 ?_
            have r11 := G.r z9 2
            obtain ⟨h12, h⟩ := h
            refine gx_iald C G rfl (fX7_plainOctets_l hV) (fX7_plainOctets_t hV) r11 h12.1 (ixl (fX7_plainOctets_n hV) h12.2) dX7_isAsIfInTurn_126 ?_
            have r13 := G.r (o + 2) (Int.toNat (S7.1 z9 2))
            refine gx_aload_n C hl dX7_isAsIfInTurn_127 rfl ?_
            refine gx_aload_n C hl dX7_isAsIfInTurn_128 rfl ?_
            refine gx_getI C G hz9 lz9 (foA_2 tz9) uw_315 (fun _ h9 => h9) dX7_isAsIfInTurn_129 ?_
            have r14 := G.r z9 2
            obtain ⟨z15, hz15, tz15, h⟩ := h
            have lz15 := (vx1 z15 hz15)
            obtain ⟨h16, h⟩ := h
            refine gx_iald C G hz15 lz15 tz15 r14 h16.1 h16.2 dX7_isAsIfInTurn_132 ?_
            have r17 := G.r z15 (Int.toNat (S7.1 z9 2))
            refine gx_icmp_eq (tgt := 138) C r13 r17 dX7_isAsIfInTurn_133 (by decide) (fun c18 => ?_) (fun c18 => ?_)
            · have h := h.1 c18
              exact b138 (B_X7_isAsIfInTurn_92 V o x1 Q n) ih y2 S7 H locs ls ry2 (lo_mask (bs := [true, true, true, false, false]) hl rfl rfl) G h
            · have h := h.2 c18
              refine gx_iconst C dX7_isAsIfInTurn_136 ?_
              exact gx_zret C G hret (Or.inl rfl) h dX7_isAsIfInTurn_137
  have b84 : ∀ (K10 : Int → Me → Prop) (hK10 : ∀ (y2 : Int) (S : Me) (H : Heap) (locs : List Loc) (ls : Array Slot), rng y2 → lo ad ls [some (.inr (some o)), some (.inr x1), some (.inl y2), none, none] → Gy D cy A s.heap ad V S H locs → K10 y2 S → W p l e (rmx 2 40) s m args below meth c H locs 0 0 (qm below D cy ad V A args s (qI Q)) (F0 m 10 ls [])) (y2 : Int) (S : Me) (H : Heap) (locs : List Loc) (ls : Array Slot), rng y2 → lo ad ls [some (.inr (some o)), some (.inr x1), some (.inl y2), none, none] → Gy D cy A s.heap ad V S H locs → B_X7_isAsIfInTurn_84 V o x1 K10 y2 S Q → W p l e (rmx 2 40) s m args below meth c H locs 0 0 (qm below D cy ad V A args s (qI Q)) (F0 m 84 ls []) := by
    intro K10 hK10 y2 S H locs ls ry2 hl G h
    unfold B_X7_isAsIfInTurn_84 at h
    obtain ⟨h19, h⟩ := h
    refine gx_iinc C hl dX7_isAsIfInTurn_84 rfl (PL' := [some (.inr (some o)), some (.inr x1), some (.inl (y2 + 1)), none, none]) rfl (fun ls hl => ?_)
    refine gx_goto (tgt := 10) C dX7_isAsIfInTurn_87 (by decide) ?_
    exact hK10 (y2 + 1) S H locs ls h19 hl G h
  have b10 : ∀ (n : Nat) (y2 : Int) (S : Me) (H : Heap) (locs : List Loc) (ls : Array Slot), rng y2 → lo ad ls [some (.inr (some o)), some (.inr x1), some (.inl y2), none, none] → Gy D cy A s.heap ad V S H locs → B_X7_isAsIfInTurn_10 V o x1 Q n y2 S → W p l e (rmx 2 40) s m args below meth c H locs 0 0 (qm below D cy ad V A args s (qI Q)) (F0 m 10 ls []) := by
    intro n
    induction n with
    | zero =>
      intro y2 S H locs ls ry2 hl G h
      exact absurd h id
    | succ n ih =>
      intro y2 S H locs ls ry2 hl G h
      rw [B_X7_isAsIfInTurn_10] at h
      refine gx_iload_n C hl dX7_isAsIfInTurn_10 rfl ?_
      refine gx_aload_n C hl dX7_isAsIfInTurn_11 rfl ?_
      refine gx_getI C G rfl (fX7_o hV) (fo6_6 (fX7_c hV)) uw_159 (fun _ h9 => h9) dX7_isAsIfInTurn_12 ?_
      have r20 := G.r o 6
      refine gx_icmp_ge (tgt := 90) C ry2 r20 dX7_isAsIfInTurn_15 (by decide) (fun c21 => ?_) (fun c21 => ?_)
      · have h := h.1 c21
        refine gx_iconst C dX7_isAsIfInTurn_90 ?_
        refine gx_istore_n C hl dX7_isAsIfInTurn_91 (Nat.le_of_ble_eq_true rfl) (PL' := [some (.inr (some o)), some (.inr x1), some (.inl 0), none, none]) rfl (fun ls hl => ?_)
        obtain ⟨n9, h⟩ := h
        exact b92 n9 0 S H locs ls (show rng 0 by decide) hl G h
      · have h := h.2 c21
        refine gx_aload_n C hl dX7_isAsIfInTurn_18 rfl ?_
        refine gx_getF C G rfl (fX7_o hV) (fo6_0 (fX7_c hV)) (fX7_all hV) uw_151 (fun _ h9 => h9) dX7_isAsIfInTurn_19 ?_
        refine gx_iload_n C hl dX7_isAsIfInTurn_22 rfl ?_
        obtain ⟨h22, h⟩ := h
        refine gx_aald C G rfl (fX7_all_l hV) (Or.inl (fX7_all_t hV)) ry2 h22.1 (ixl (fX7_all_n hV) h22.2) dX7_isAsIfInTurn_23 ?_
        have v23 := G.v (o + 1) (Int.toNat y2)
        refine gx_astore_n C hl dX7_isAsIfInTurn_24 (Nat.le_of_ble_eq_true rfl) (PL' := [some (.inr (some o)), some (.inr x1), some (.inl y2), some (.inr (S.2 (o + 1) (Int.toNat y2))), none]) rfl (fun ls hl => ?_)
        refine gx_aload_n C hl dX7_isAsIfInTurn_25 rfl ?_
        refine gx_ifnull (tgt := 84) C dX7_isAsIfInTurn_26 (by decide) (fun c24 => ?_) (fun c24 => ?_)
        · have h := h.1 c24
          exact b84 (B_X7_isAsIfInTurn_10 V o x1 Q n) ih y2 S H locs ls ry2 (lo_mask (bs := [true, true, true, false, false]) hl rfl rfl) G h
        · have h := h.2 c24
          refine gx_aload_n C hl dX7_isAsIfInTurn_29 rfl ?_
          obtain ⟨z25, hz25, tz25, h⟩ := h
          have lz25 := (v23 z25 hz25)
          refine gx_getI C G hz25 lz25 (foA_6 tz25) uw_330 (fun _ h9 => h9) dX7_isAsIfInTurn_30 ?_
          have r26 := G.r z25 6
          refine gx_if_eq (tgt := 84) C r26 dX7_isAsIfInTurn_33 (by decide) (fun c27 => ?_) (fun c27 => ?_)
          · have h := h.1 c27
            exact b84 (B_X7_isAsIfInTurn_10 V o x1 Q n) ih y2 S H locs ls ry2 (lo_mask (bs := [true, true, true, false, false]) hl rfl rfl) G h
          · have h := h.2 c27
            refine gx_aload_n C hl dX7_isAsIfInTurn_36 rfl ?_
            refine gv_7_50 C G hl hml hz25 lz25 tz25 h ⟨Nat.le_of_ble_eq_true rfl, Nat.le_of_ble_eq_true rfl⟩ ⟨Nat.zero_le _, Nat.zero_le _⟩ (hw_le ad [] rfl (Nat.le_of_ble_eq_true rfl)) dX7_isAsIfInTurn_37 (fun t29 S28 H locs rt29 h G => ?_)
            refine gx_if_ne (tgt := 84) C rt29 dX7_isAsIfInTurn_40 (by decide) (fun c30 => ?_) (fun c30 => ?_)
            · have h := h.1 c30
              exact b84 (B_X7_isAsIfInTurn_10 V o x1 Q n) ih y2 S28 H locs ls ry2 (lo_mask (bs := [true, true, true, false, false]) hl rfl rfl) G h
            · have h := h.2 c30
              refine gx_aload_n C hl dX7_isAsIfInTurn_43 rfl ?_
              refine gx_getF C G rfl (fX7_o hV) (fo6_1 (fX7_c hV)) (fX7_plainOctets hV) uw_152 (fun _ h9 => h9) dX7_isAsIfInTurn_44 ?_
              refine gx_aload_n C hl dX7_isAsIfInTurn_47 rfl ?_
              refine gx_getI C G hz25 lz25 (foA_2 tz25) uw_315 (fun _ h9 => h9) dX7_isAsIfInTurn_48 ?_
              have r31 := G.r z25 2
              obtain ⟨h32, h⟩ := h
              refine gx_iald C G rfl (fX7_plainOctets_l hV) (fX7_plainOctets_t hV) r31 h32.1 (ixl (fX7_plainOctets_n hV) h32.2) dX7_isAsIfInTurn_51 ?_
              have r33 := G.r (o + 2) (Int.toNat (S28.1 z25 2))
              refine gx_istore C hl dX7_isAsIfInTurn_52 (Nat.le_of_ble_eq_true rfl) (PL' := [some (.inr (some o)), some (.inr x1), some (.inl y2), some (.inr (S.2 (o + 1) (Int.toNat y2))), some (.inl (S28.1 (o + 2) (Int.toNat (S28.1 z25 2))))]) rfl (fun ls hl => ?_)
              refine gx_aload_n C hl dX7_isAsIfInTurn_54 rfl ?_
              refine gx_iload C hl dX7_isAsIfInTurn_55 rfl ?_
              refine gv_7_115 C G hl hml hz25 lz25 tz25 r33 h ⟨Nat.le_of_ble_eq_true rfl, Nat.le_of_ble_eq_true rfl⟩ ⟨Nat.zero_le _, Nat.zero_le _⟩ (hw_le ad [] rfl (Nat.le_of_ble_eq_true rfl)) dX7_isAsIfInTurn_57 (fun t35 S34 H locs rt35 h G => ?_)
              refine gx_aload_n C hl dX7_isAsIfInTurn_60 rfl ?_
              refine gx_getI C G hz25 lz25 (foA_7 tz25) uw_334 (fun _ h9 => h9) dX7_isAsIfInTurn_61 ?_
              have r36 := G.r z25 7
              refine gx_icmp_eq (tgt := 69) C rt35 r36 dX7_isAsIfInTurn_64 (by decide) (fun c37 => ?_) (fun c37 => ?_)
              · have h := h.1 c37
                refine gx_aload_n C hl dX7_isAsIfInTurn_69 rfl ?_
                refine gx_getF C G rfl (fX7_o hV) (fo6_1 (fX7_c hV)) (fX7_plainOctets hV) uw_152 (fun _ h9 => h9) dX7_isAsIfInTurn_70 ?_
                refine gx_aload_n C hl dX7_isAsIfInTurn_73 rfl ?_
                refine gx_getI C G hz25 lz25 (foA_2 tz25) uw_315 (fun _ h9 => h9) dX7_isAsIfInTurn_74 ?_
                have r38 := G.r z25 2
                refine gx_aload_n C hl dX7_isAsIfInTurn_77 rfl ?_
                refine gx_iload C hl dX7_isAsIfInTurn_78 rfl ?_
                refine gv_7_122 C G hl hml hz25 lz25 tz25 r33 h ⟨Nat.le_of_ble_eq_true rfl, Nat.le_of_ble_eq_true rfl⟩ ⟨Nat.zero_le _, Nat.zero_le _⟩ (hw_le ad [.inl (S34.1 z25 2), .inr (some (o + 2))] rfl (Nat.le_of_ble_eq_true rfl)) dX7_isAsIfInTurn_80 (fun t40 S39 H locs rt40 h G => ?_)
                obtain ⟨h41, h⟩ := h
                refine gx_iast C G rfl (fX7_plainOctets_l hV) (fX7_plainOctets_t hV) r38 rt40 h41.1 (ixl (fX7_plainOctets_n hV) h41.2) dX7_isAsIfInTurn_83 (fun H locs G => ?_)
                obtain ⟨S42, eS42⟩ : ∃ q9 : Me, q9 = sI S39 (o + 2) (Int.toNat (S34.1 z25 2)) t40 := ⟨_, rfl⟩
                have h := h S42 eS42
                rw [← eS42] at G
                exact b84 (B_X7_isAsIfInTurn_10 V o x1 Q n) ih y2 S42 H locs ls ry2 (lo_mask (bs := [true, true, true, false, false]) hl rfl rfl) G h
              · have h := h.2 c37
                refine gx_iconst C dX7_isAsIfInTurn_67 ?_
                exact gx_zret C G hret (Or.inl rfl) h dX7_isAsIfInTurn_68
  clear eA
  unfold PT_X7_isAsIfInTurn at h
  refine gx_aload_n C hl dX7_isAsIfInTurn_0 rfl ?_
  refine gx_getF C G rfl (fX7_o hV) (fo6_1 (fX7_c hV)) (fX7_plainOctets hV) uw_152 (fun _ h9 => h9) dX7_isAsIfInTurn_1 ?_
  refine gx_iconst C dX7_isAsIfInTurn_4 ?_
  refine gx_callS C G hl hml (c_J7_fill_53178 l D cy ad (vsome (fX7_plainOctets_l hV)) (show rng 0 by decide) h) uw_43 uw_734 uw_42 uw_3 hd_J7_fill_53178 ⟨Nat.le_of_ble_eq_true rfl, Nat.le_of_ble_eq_true rfl⟩ ⟨Nat.zero_le _, Nat.zero_le _⟩ rfl rfl (hw_le ad [] rfl (Nat.le_of_ble_eq_true rfl)) dX7_isAsIfInTurn_5 (kkV (fun S43 H locs h G => ?_))
  refine gx_iconst C dX7_isAsIfInTurn_8 ?_
  refine gx_istore_n C hl dX7_isAsIfInTurn_9 (Nat.le_of_ble_eq_true rfl) (PL' := [some (.inr (some o)), some (.inr x1), some (.inl 0), none, none]) rfl (fun ls hl => ?_)
  obtain ⟨n9, h⟩ := h
  exact b10 n9 0 S43 H locs ls (show rng 0 by decide) hl G h
