section
variable {p : Program} {l : Launch} {e : Env} {R : Room} {s : State} {m : MethodId} {args : Array Value} {below : List Frame} {meth : Method} {c : Code} {H : Heap} {locs : List Loc} {cells slots : Nat} {Q : State → Prop} {cc : ByteArray} {pc : Nat} {ls : Array Slot} {rest : List Value} {D : va_G} {cy : ClassId × ClassId × ClassId × ClassId} {A : Nat → Prop} {ad : Nat → Nat} {V : Vt} {S : Me} {PL : List (Option (Int ⊕ Option Nat))}
set_option maxHeartbeats 4000000 in
set_option maxRecDepth 100000 in
theorem gv_4_35 (C : Cx p s m args meth c cc RX4 D cy A) (G : Gy D cy A s.heap ad V S H locs) (hlo : lo ad ls PL) (hml : c.maxLocals = PL.length) {r : Option Nat} {z : Nat} (hz : r = some z) (hzl : z < V.1) (hA : isA (V.2.1 z)) {Qi : Int → Me → Prop} (h : PV_doneBy V z S Qi) (hR : 1 ≤ R.frames ∧ 20 ≤ R.locals) (hRc : cells ≤ R.cells ∧ slots ≤ R.slots) (hW : (rest.map fun v => v.category).sum ≤ 8) (hdg : decode cc pc = .ok (.invokevirtual 35, 3)) (kk : ∀ (x : Int) (S' : Me) (H1 : Heap) (locs1 : List Loc), rng x → Qi x S' → Gy D cy A s.heap ad V S' H1 locs1 → W p l e R s m args below meth c H1 locs1 cells slots Q (F0 m (pc + 3) ls (vI x :: rest))) : W p l e R s m args below meth c H locs cells slots Q (F0 m pc ls (vR ad r :: rest)) := by
  subst hz
  have hdc : va_Decl s ⟨"RowBank$Ask", "doneBy", "()I"⟩ := va_Decl.of (C.2.2.2.1 _ uw_582) (C.2.2.2.1 _ uw_591)
  unfold PV_doneBy at h
  rcases hA with t | t | t | t | t
  · exact gx_callU (x := yX0_doneBy) (owner := "RowBank$Ask") C G hlo hml (c_X0_doneBy l D cy ad hzl (by omega) (h.1 t)) rfl hzl (by rw [t]; rfl) (by rw [t]; decide) uw_591 uw_581 uw_583 hdc uw_582 uw_584 uw_10 hd_v_doneBy ⟨Nat.le_trans (Nat.le_of_ble_eq_true rfl) hR.1, Nat.le_trans (Nat.le_of_ble_eq_true rfl) hR.2⟩ hRc rfl rfl hW hdg (kkI kk)
  · exact gx_callU (x := yX0_doneBy) (owner := "RowBank$Ask") C G hlo hml (c_X0_doneBy l D cy ad hzl (by omega) (h.2.1 t)) rfl hzl (by rw [t]; rfl) (by rw [t]; decide) uw_591 uw_581 uw_583 hdc uw_582 uw_585 uw_10 hd_v_doneBy ⟨Nat.le_trans (Nat.le_of_ble_eq_true rfl) hR.1, Nat.le_trans (Nat.le_of_ble_eq_true rfl) hR.2⟩ hRc rfl rfl hW hdg (kkI kk)
  · exact gx_callU (x := yX0_doneBy) (owner := "RowBank$Ask") C G hlo hml (c_X6_doneBy l D cy ad hzl t (h.2.2.1 t)) rfl hzl (by rw [t]; rfl) (by rw [t]; decide) uw_588 uw_581 uw_583 hdc uw_587 uw_586 uw_11 hd_v_doneBy ⟨Nat.le_trans (Nat.le_of_ble_eq_true rfl) hR.1, Nat.le_trans (Nat.le_of_ble_eq_true rfl) hR.2⟩ hRc rfl rfl hW hdg (kkI kk)
  · exact gx_callU (x := yX0_doneBy) (owner := "RowBank$Ask") C G hlo hml (c_X0_doneBy l D cy ad hzl (by omega) (h.2.2.2.1 t)) rfl hzl (by rw [t]; rfl) (by rw [t]; decide) uw_591 uw_581 uw_583 hdc uw_582 uw_589 uw_10 hd_v_doneBy ⟨Nat.le_trans (Nat.le_of_ble_eq_true rfl) hR.1, Nat.le_trans (Nat.le_of_ble_eq_true rfl) hR.2⟩ hRc rfl rfl hW hdg (kkI kk)
  · exact gx_callU (x := yX0_doneBy) (owner := "RowBank$Ask") C G hlo hml (c_X0_doneBy l D cy ad hzl (by omega) (h.2.2.2.2 t)) rfl hzl (by rw [t]; rfl) (by rw [t]; decide) uw_591 uw_581 uw_583 hdc uw_582 uw_590 uw_10 hd_v_doneBy ⟨Nat.le_trans (Nat.le_of_ble_eq_true rfl) hR.1, Nat.le_trans (Nat.le_of_ble_eq_true rfl) hR.2⟩ hRc rfl rfl hW hdg (kkI kk)
set_option maxHeartbeats 4000000 in
set_option maxRecDepth 100000 in
theorem gv_4_42 (C : Cx p s m args meth c cc RX4 D cy A) (G : Gy D cy A s.heap ad V S H locs) (hlo : lo ad ls PL) (hml : c.maxLocals = PL.length) {r : Option Nat} {z : Nat} (hz : r = some z) (hzl : z < V.1) (hA : isA (V.2.1 z)) {x1 : Int} (r1 : rng x1) {Qi : Int → Me → Prop} (h : PV_answerFrom V z x1 S Qi) (hR : 1 ≤ R.frames ∧ 21 ≤ R.locals) (hRc : cells ≤ R.cells ∧ slots ≤ R.slots) (hW : (rest.map fun v => v.category).sum ≤ 8) (hdg : decode cc pc = .ok (.invokevirtual 42, 3)) (kk : ∀ (x : Int) (S' : Me) (H1 : Heap) (locs1 : List Loc), rng x → Qi x S' → Gy D cy A s.heap ad V S' H1 locs1 → W p l e R s m args below meth c H1 locs1 cells slots Q (F0 m (pc + 3) ls (vI x :: rest))) : W p l e R s m args below meth c H locs cells slots Q (F0 m pc ls (vI x1 :: vR ad r :: rest)) := by
  subst hz
  have hdc : va_Decl s ⟨"RowBank$Ask", "answerFrom", "(I)I"⟩ := va_Decl.of (C.2.2.2.1 _ uw_624) (C.2.2.2.1 _ uw_635)
  unfold PV_answerFrom at h
  rcases hA with t | t | t | t | t
  · exact gx_callU (x := yX0_answerFrom) (owner := "RowBank$Ask") C G hlo hml (c_X0_answerFrom l D cy ad hzl (by omega) r1 (h.1 t)) rfl hzl (by rw [t]; rfl) (by rw [t]; decide) uw_635 uw_623 uw_625 hdc uw_624 uw_626 uw_10 hd_v_answerFrom ⟨Nat.le_trans (Nat.le_of_ble_eq_true rfl) hR.1, Nat.le_trans (Nat.le_of_ble_eq_true rfl) hR.2⟩ hRc rfl rfl hW hdg (kkI kk)
  · exact gx_callU (x := yX0_answerFrom) (owner := "RowBank$Ask") C G hlo hml (c_X0_answerFrom l D cy ad hzl (by omega) r1 (h.2.1 t)) rfl hzl (by rw [t]; rfl) (by rw [t]; decide) uw_635 uw_623 uw_625 hdc uw_624 uw_627 uw_10 hd_v_answerFrom ⟨Nat.le_trans (Nat.le_of_ble_eq_true rfl) hR.1, Nat.le_trans (Nat.le_of_ble_eq_true rfl) hR.2⟩ hRc rfl rfl hW hdg (kkI kk)
  · exact gx_callU (x := yX0_answerFrom) (owner := "RowBank$Ask") C G hlo hml (c_X6_answerFrom l D cy ad hzl t r1 (h.2.2.1 t)) rfl hzl (by rw [t]; rfl) (by rw [t]; decide) uw_630 uw_623 uw_625 hdc uw_629 uw_628 uw_11 hd_v_answerFrom ⟨Nat.le_trans (Nat.le_of_ble_eq_true rfl) hR.1, Nat.le_trans (Nat.le_of_ble_eq_true rfl) hR.2⟩ hRc rfl rfl hW hdg (kkI kk)
  · exact gx_callU (x := yX0_answerFrom) (owner := "RowBank$Ask") C G hlo hml (c_X9_answerFrom l D cy ad hzl t r1 (h.2.2.2.1 t)) rfl hzl (by rw [t]; rfl) (by rw [t]; decide) uw_633 uw_623 uw_625 hdc uw_632 uw_631 uw_14 hd_v_answerFrom ⟨Nat.le_trans (Nat.le_of_ble_eq_true rfl) hR.1, Nat.le_trans (Nat.le_of_ble_eq_true rfl) hR.2⟩ hRc rfl rfl hW hdg (kkI kk)
  · exact gx_callU (x := yX0_answerFrom) (owner := "RowBank$Ask") C G hlo hml (c_X0_answerFrom l D cy ad hzl (by omega) r1 (h.2.2.2.2 t)) rfl hzl (by rw [t]; rfl) (by rw [t]; decide) uw_635 uw_623 uw_625 hdc uw_624 uw_634 uw_10 hd_v_answerFrom ⟨Nat.le_trans (Nat.le_of_ble_eq_true rfl) hR.1, Nat.le_trans (Nat.le_of_ble_eq_true rfl) hR.2⟩ hRc rfl rfl hW hdg (kkI kk)
set_option maxHeartbeats 4000000 in
set_option maxRecDepth 100000 in
theorem gv_4_48 (C : Cx p s m args meth c cc RX4 D cy A) (G : Gy D cy A s.heap ad V S H locs) (hlo : lo ad ls PL) (hml : c.maxLocals = PL.length) {r : Option Nat} {z : Nat} (hz : r = some z) (hzl : z < V.1) (hA : isA (V.2.1 z)) {x1 : Int} (r1 : rng x1) {Qi : Int → Me → Prop} (h : PV_octetAfter V z x1 S Qi) (hR : 1 ≤ R.frames ∧ 21 ≤ R.locals) (hRc : cells ≤ R.cells ∧ slots ≤ R.slots) (hW : (rest.map fun v => v.category).sum ≤ 8) (hdg : decode cc pc = .ok (.invokevirtual 48, 3)) (kk : ∀ (x : Int) (S' : Me) (H1 : Heap) (locs1 : List Loc), rng x → Qi x S' → Gy D cy A s.heap ad V S' H1 locs1 → W p l e R s m args below meth c H1 locs1 cells slots Q (F0 m (pc + 3) ls (vI x :: rest))) : W p l e R s m args below meth c H locs cells slots Q (F0 m pc ls (vI x1 :: vR ad r :: rest)) := by
  subst hz
  have hdc : va_Decl s ⟨"RowBank$Ask", "octetAfter", "(I)I"⟩ := va_Decl.of (C.2.2.2.1 _ uw_637) (C.2.2.2.1 _ uw_648)
  unfold PV_octetAfter at h
  rcases hA with t | t | t | t | t
  · exact gx_callU (x := yX0_octetAfter) (owner := "RowBank$Ask") C G hlo hml (c_X0_octetAfter l D cy ad hzl (by omega) r1 (h.1 t)) rfl hzl (by rw [t]; rfl) (by rw [t]; decide) uw_648 uw_636 uw_638 hdc uw_637 uw_639 uw_10 hd_v_octetAfter ⟨Nat.le_trans (Nat.le_of_ble_eq_true rfl) hR.1, Nat.le_trans (Nat.le_of_ble_eq_true rfl) hR.2⟩ hRc rfl rfl hW hdg (kkI kk)
  · exact gx_callU (x := yX0_octetAfter) (owner := "RowBank$Ask") C G hlo hml (c_X3_octetAfter l D cy ad hzl t r1 (h.2.1 t)) rfl hzl (by rw [t]; rfl) (by rw [t]; decide) uw_642 uw_636 uw_638 hdc uw_641 uw_640 uw_13 hd_v_octetAfter ⟨Nat.le_trans (Nat.le_of_ble_eq_true rfl) hR.1, Nat.le_trans (Nat.le_of_ble_eq_true rfl) hR.2⟩ hRc rfl rfl hW hdg (kkI kk)
  · exact gx_callU (x := yX0_octetAfter) (owner := "RowBank$Ask") C G hlo hml (c_X0_octetAfter l D cy ad hzl (by omega) r1 (h.2.2.1 t)) rfl hzl (by rw [t]; rfl) (by rw [t]; decide) uw_648 uw_636 uw_638 hdc uw_637 uw_643 uw_10 hd_v_octetAfter ⟨Nat.le_trans (Nat.le_of_ble_eq_true rfl) hR.1, Nat.le_trans (Nat.le_of_ble_eq_true rfl) hR.2⟩ hRc rfl rfl hW hdg (kkI kk)
  · exact gx_callU (x := yX0_octetAfter) (owner := "RowBank$Ask") C G hlo hml (c_X10_octetAfter l D cy ad hzl (by omega) r1 (h.2.2.2.1 t)) rfl hzl (by rw [t]; rfl) (by rw [t]; decide) uw_646 uw_636 uw_638 hdc uw_645 uw_644 uw_12 hd_v_octetAfter ⟨Nat.le_trans (Nat.le_of_ble_eq_true rfl) hR.1, Nat.le_trans (Nat.le_of_ble_eq_true rfl) hR.2⟩ hRc rfl rfl hW hdg (kkI kk)
  · exact gx_callU (x := yX0_octetAfter) (owner := "RowBank$Ask") C G hlo hml (c_X10_octetAfter l D cy ad hzl (by omega) r1 (h.2.2.2.2 t)) rfl hzl (by rw [t]; rfl) (by rw [t]; decide) uw_646 uw_636 uw_638 hdc uw_645 uw_647 uw_12 hd_v_octetAfter ⟨Nat.le_trans (Nat.le_of_ble_eq_true rfl) hR.1, Nat.le_trans (Nat.le_of_ble_eq_true rfl) hR.2⟩ hRc rfl rfl hW hdg (kkI kk)
end
def PT_X4_rowOf (V : Vt) (x1 : Int) (S : Me) (Q : Int → Me → Prop) : Prop := Q (Int.tdiv x1 64) S
theorem hd_X4_rowOf : yX4_rowOf.cls ≠ "java/lang/invoke/MethodHandle" ∧ yX4_rowOf.cls ≠ "java/lang/invoke/VarHandle" ∧ (parseMethodDescriptor yX4_rowOf.desc).map (fun d => d.parameters.length) = some 1 := by decide +kernel
set_option maxHeartbeats 4000000 in
set_option maxRecDepth 100000 in
theorem c_X4_rowOf (l : Launch) (D : va_G) (cy : ClassId × ClassId × ClassId × ClassId) (ad : Nat → Nat) {V : Vt} {S : Me} {x1 : Int} (rx1 : rng x1) {Q : Int → Me → Prop} (h : PT_X4_rowOf V x1 S Q) : KM l D cy yX4_rowOf cX4_rowOf 1 (Option.some Jvm.ClassFile.FieldType.int) 0 0 ad V S [.inl x1] (qI Q) := by
  refine KM.of (by decide) rfl (Nat.le_of_ble_eq_true rfl) (own := RX4) (fun p e s m args below meth c A ls H locs eA C hret hml hmn hl G => ?_)
  have hl : lo ad ls [some (.inl x1)] := hl
  clear eA
  unfold PT_X4_rowOf at h
  refine gx_iload_n C hl dX4_rowOf_0 rfl ?_
  refine gx_bipush C dX4_rowOf_1 (by decide) ?_
  refine gx_idiv C rx1 (show rng 64 by decide) (by decide) dX4_rowOf_3 ?_
  exact gx_iret C G hret (rg_dv rx1 (by decide)) h dX4_rowOf_4
def PT_X4_bankOf (V : Vt) (x1 : Int) (S : Me) (Q : Int → Me → Prop) : Prop := PT_X4_rowOf V x1 S (fun t2 S1 => Q (Int.tmod (bXor (Int.tdiv x1 16) t2) 4) S1)
theorem hd_X4_bankOf : yX4_bankOf.cls ≠ "java/lang/invoke/MethodHandle" ∧ yX4_bankOf.cls ≠ "java/lang/invoke/VarHandle" ∧ (parseMethodDescriptor yX4_bankOf.desc).map (fun d => d.parameters.length) = some 1 := by decide +kernel
set_option maxHeartbeats 4000000 in
set_option maxRecDepth 100000 in
theorem c_X4_bankOf (l : Launch) (D : va_G) (cy : ClassId × ClassId × ClassId × ClassId) (ad : Nat → Nat) {V : Vt} {S : Me} {x1 : Int} (rx1 : rng x1) {Q : Int → Me → Prop} (h : PT_X4_bankOf V x1 S Q) : KM l D cy yX4_bankOf cX4_bankOf 1 (Option.some Jvm.ClassFile.FieldType.int) 1 20 ad V S [.inl x1] (qI Q) := by
  refine KM.of (by decide) rfl (Nat.le_of_ble_eq_true rfl) (own := RX4) (fun p e s m args below meth c A ls H locs eA C hret hml hmn hl G => ?_)
  have hl : lo ad ls [some (.inl x1)] := hl
  clear eA
  unfold PT_X4_bankOf at h
  refine gx_iload_n C hl dX4_bankOf_0 rfl ?_
  refine gx_bipush C dX4_bankOf_1 (by decide) ?_
  refine gx_idiv C rx1 (show rng 16 by decide) (by decide) dX4_bankOf_3 ?_
  refine gx_iload_n C hl dX4_bankOf_4 rfl ?_
  refine gx_callS C G hl hml (c_X4_rowOf l D cy ad rx1 h) uw_303 uw_301 uw_302 uw_5 hd_X4_rowOf ⟨Nat.le_of_ble_eq_true rfl, Nat.le_of_ble_eq_true rfl⟩ ⟨Nat.zero_le _, Nat.zero_le _⟩ rfl rfl (hw_le ad [.inl (Int.tdiv x1 16)] rfl (Nat.le_of_ble_eq_true rfl)) dX4_bankOf_5 (kkI (fun t2 S1 H locs rt2 h G => ?_))
  refine gx_ixor C dX4_bankOf_8 ?_
  refine gx_iconst C dX4_bankOf_9 ?_
  refine gx_irem C (rg_o _) (show rng 4 by decide) (by decide) dX4_bankOf_10 ?_
  exact gx_iret C G hret (rg_md (rg_o _)) h dX4_bankOf_11
def B_X4_areAllShut_2 (V : Vt) (o : Nat) (Q : Int → Me → Prop) : Nat → (Int → Me → Prop)
  | 0 => fun _ _ => False
  | n + 1 => fun y1 S => ((4 ≤ y1 → Q 1 S) ∧ (¬ 4 ≤ y1 → (0 ≤ y1 ∧ y1 < 4) ∧ (((S.1 (o + 2) (Int.toNat y1)) = (-2) → (rng (y1 + 1)) ∧ B_X4_areAllShut_2 V o Q n (y1 + 1) S) ∧ (¬ (S.1 (o + 2) (Int.toNat y1)) = (-2) → Q 0 S))))
def PT_X4_areAllShut (V : Vt) (o : Nat) (S : Me) (Q : Int → Me → Prop) : Prop := (∃ n9 : Nat, B_X4_areAllShut_2 V o Q n9 0 S)
theorem hd_X4_areAllShut : yX4_areAllShut.cls ≠ "java/lang/invoke/MethodHandle" ∧ yX4_areAllShut.cls ≠ "java/lang/invoke/VarHandle" ∧ (parseMethodDescriptor yX4_areAllShut.desc).map (fun d => d.parameters.length) = some 0 := by decide +kernel
set_option maxHeartbeats 4000000 in
set_option maxRecDepth 100000 in
theorem c_X4_areAllShut (l : Launch) (D : va_G) (cy : ClassId × ClassId × ClassId × ClassId) (ad : Nat → Nat) {V : Vt} {S : Me} {o : Nat} (hV : fX4 V o) {Q : Int → Me → Prop} (h : PT_X4_areAllShut V o S Q) : KM l D cy yX4_areAllShut cX4_areAllShut 2 (Option.some Jvm.ClassFile.FieldType.boolean) 0 0 ad V S [.inr (some o)] (qI Q) := by
  refine KM.of (by decide) rfl (Nat.le_of_ble_eq_true rfl) (own := RX4) (fun p e s m args below meth c A ls H locs eA C hret hml hmn hl G => ?_)
  have hl : lo ad ls [some (.inr (some o)), none] := hl
  have b2 : ∀ (n : Nat) (y1 : Int) (S : Me) (H : Heap) (locs : List Loc) (ls : Array Slot), rng y1 → lo ad ls [some (.inr (some o)), some (.inl y1)] → Gy D cy A s.heap ad V S H locs → B_X4_areAllShut_2 V o Q n y1 S → W p l e (rmx 0 0) s m args below meth c H locs 0 0 (qm below D cy ad V A args s (qI Q)) (F0 m 2 ls []) := by
    intro n
    induction n with
    | zero =>
      intro y1 S H locs ls ry1 hl G h
      exact absurd h id
    | succ n ih =>
      intro y1 S H locs ls ry1 hl G h
      rw [B_X4_areAllShut_2] at h
      refine gx_iload_n C hl dX4_areAllShut_2 rfl ?_
      refine gx_iconst C dX4_areAllShut_3 ?_
      refine gx_icmp_ge (tgt := 26) C ry1 (show rng 4 by decide) dX4_areAllShut_4 (by decide) (fun c1 => ?_) (fun c1 => ?_)
      · have h := h.1 c1
        refine gx_iconst C dX4_areAllShut_26 ?_
        exact gx_zret C G hret (Or.inr rfl) h dX4_areAllShut_27
      · have h := h.2 c1
        refine gx_aload_n C hl dX4_areAllShut_7 rfl ?_
        refine gx_getF C G rfl (fX4_o hV) (fo3_1 (fX4_c hV)) (fX4_openRows hV) uw_135 (fun _ h9 => h9) dX4_areAllShut_8 ?_
        refine gx_iload_n C hl dX4_areAllShut_11 rfl ?_
        obtain ⟨h2, h⟩ := h
        refine gx_iald C G rfl (fX4_openRows_l hV) (fX4_openRows_t hV) ry1 h2.1 (ixl (fX4_openRows_n hV) h2.2) dX4_areAllShut_12 ?_
        have r3 := G.r (o + 2) (Int.toNat y1)
        refine gx_bipush C dX4_areAllShut_13 (by decide) ?_
        refine gx_icmp_eq (tgt := 20) C r3 (show rng (-2) by decide) dX4_areAllShut_15 (by decide) (fun c4 => ?_) (fun c4 => ?_)
        · have h := h.1 c4
          obtain ⟨h5, h⟩ := h
          refine gx_iinc C hl dX4_areAllShut_20 rfl (PL' := [some (.inr (some o)), some (.inl (y1 + 1))]) rfl (fun ls hl => ?_)
          refine gx_goto (tgt := 2) C dX4_areAllShut_23 (by decide) ?_
          exact ih (y1 + 1) S H locs ls h5 hl G h
        · have h := h.2 c4
          refine gx_iconst C dX4_areAllShut_18 ?_
          exact gx_zret C G hret (Or.inl rfl) h dX4_areAllShut_19
  clear eA
  unfold PT_X4_areAllShut at h
  refine gx_iconst C dX4_areAllShut_0 ?_
  refine gx_istore_n C hl dX4_areAllShut_1 (Nat.le_of_ble_eq_true rfl) (PL' := [some (.inr (some o)), some (.inl 0)]) rfl (fun ls hl => ?_)
  obtain ⟨n9, h⟩ := h
  exact b2 n9 0 S H locs ls (show rng 0 by decide) hl G h
def B_X4_allows_26 (V : Vt) (o : Nat) (x1 : Int) (x2 : Int) (w0 : Int) (S : Me) (Q : Int → Me → Prop) : Prop := ((¬ x1 = 0 → ((¬ w0 = 0 → Q 0 S) ∧ (w0 = 0 → Q 1 S))) ∧ (x1 = 0 → (w0 = 0 ∨ w0 = 1) ∧ Q w0 S))
def PT_X4_allows (V : Vt) (o : Nat) (x1 : Int) (x2 : Int) (S : Me) (Q : Int → Me → Prop) : Prop := ((¬ x1 = 4 → (0 ≤ x2 ∧ x2 < 4) ∧ ((¬ (S.1 (o + 2) (Int.toNat x2)) = (-2) → B_X4_allows_26 V o x1 x2 0 S Q) ∧ ((S.1 (o + 2) (Int.toNat x2)) = (-2) → B_X4_allows_26 V o x1 x2 1 S Q))) ∧ (x1 = 4 → PT_X4_areAllShut V o S (fun t9 S8 => (t9 = 0 ∨ t9 = 1) ∧ Q t9 S8)))
theorem hd_X4_allows : yX4_allows.cls ≠ "java/lang/invoke/MethodHandle" ∧ yX4_allows.cls ≠ "java/lang/invoke/VarHandle" ∧ (parseMethodDescriptor yX4_allows.desc).map (fun d => d.parameters.length) = some 2 := by decide +kernel
set_option maxHeartbeats 4000000 in
set_option maxRecDepth 100000 in
theorem c_X4_allows (l : Launch) (D : va_G) (cy : ClassId × ClassId × ClassId × ClassId) (ad : Nat → Nat) {V : Vt} {S : Me} {o : Nat} {x1 : Int} {x2 : Int} (hV : fX4 V o) (rx1 : rng x1) (rx2 : rng x2) {Q : Int → Me → Prop} (h : PT_X4_allows V o x1 x2 S Q) : KM l D cy yX4_allows cX4_allows 4 (Option.some Jvm.ClassFile.FieldType.boolean) 1 21 ad V S [.inr (some o), .inl x1, .inl x2] (qI Q) := by
  refine KM.of (by decide) rfl (Nat.le_of_ble_eq_true rfl) (own := RX4) (fun p e s m args below meth c A ls H locs eA C hret hml hmn hl G => ?_)
  have hl : lo ad ls [some (.inr (some o)), some (.inl x1), some (.inl x2), none] := hl
  have b26 : ∀ (w0 : Int) (S : Me) (H : Heap) (locs : List Loc) (ls : Array Slot), rng w0 → lo ad ls [some (.inr (some o)), some (.inl x1), some (.inl x2), none] → Gy D cy A s.heap ad V S H locs → B_X4_allows_26 V o x1 x2 w0 S Q → W p l e (rmx 1 21) s m args below meth c H locs 0 0 (qm below D cy ad V A args s (qI Q)) (F0 m 26 ls [vI w0]) := by
    intro w0 S H locs ls rw0 hl G h
    unfold B_X4_allows_26 at h
    refine gx_istore_n C hl dX4_allows_26 (Nat.le_of_ble_eq_true rfl) (PL' := [some (.inr (some o)), some (.inl x1), some (.inl x2), some (.inl w0)]) rfl (fun ls hl => ?_)
    refine gx_iload_n C hl dX4_allows_27 rfl ?_
    refine gx_if_ne (tgt := 35) C rx1 dX4_allows_28 (by decide) (fun c1 => ?_) (fun c1 => ?_)
    · have h := h.1 c1
      refine gx_iload_n C hl dX4_allows_35 rfl ?_
      refine gx_if_ne (tgt := 43) C rw0 dX4_allows_36 (by decide) (fun c2 => ?_) (fun c2 => ?_)
      · have h := h.1 c2
        refine gx_iconst C dX4_allows_43 ?_
        exact gx_zret C G hret (Or.inl rfl) h dX4_allows_44
      · have h := h.2 c2
        refine gx_iconst C dX4_allows_39 ?_
        refine gx_goto (tgt := 44) C dX4_allows_40 (by decide) ?_
        exact gx_zret C G hret (Or.inr rfl) h dX4_allows_44
    · have h := h.2 c1
      refine gx_iload_n C hl dX4_allows_31 rfl ?_
      refine gx_goto (tgt := 44) C dX4_allows_32 (by decide) ?_
      obtain ⟨h3, h⟩ := h
      exact gx_zret C G hret h3 h dX4_allows_44
  clear eA
  unfold PT_X4_allows at h
  refine gx_iload_n C hl dX4_allows_0 rfl ?_
  refine gx_iconst C dX4_allows_1 ?_
  refine gx_icmp_ne (tgt := 10) C rx1 (show rng 4 by decide) dX4_allows_2 (by decide) (fun c4 => ?_) (fun c4 => ?_)
  · have h := h.1 c4
    refine gx_aload_n C hl dX4_allows_10 rfl ?_
    refine gx_getF C G rfl (fX4_o hV) (fo3_1 (fX4_c hV)) (fX4_openRows hV) uw_135 (fun _ h9 => h9) dX4_allows_11 ?_
    refine gx_iload_n C hl dX4_allows_14 rfl ?_
    obtain ⟨h5, h⟩ := h
    refine gx_iald C G rfl (fX4_openRows_l hV) (fX4_openRows_t hV) rx2 h5.1 (ixl (fX4_openRows_n hV) h5.2) dX4_allows_15 ?_
    have r6 := G.r (o + 2) (Int.toNat x2)
    refine gx_bipush C dX4_allows_16 (by decide) ?_
    refine gx_icmp_ne (tgt := 25) C r6 (show rng (-2) by decide) dX4_allows_18 (by decide) (fun c7 => ?_) (fun c7 => ?_)
    · have h := h.1 c7
      refine gx_iconst C dX4_allows_25 ?_
      exact b26 0 S H locs ls (show rng 0 by decide) hl G h
    · have h := h.2 c7
      refine gx_iconst C dX4_allows_21 ?_
      refine gx_goto (tgt := 26) C dX4_allows_22 (by decide) ?_
      exact b26 1 S H locs ls (show rng 1 by decide) hl G h
  · have h := h.2 c4
    refine gx_aload_n C hl dX4_allows_5 rfl ?_
    refine gx_callV C G hl hml (c_X4_areAllShut l D cy ad hV h) rfl (fX4_o hV) (by rw [(fX4_c hV)]; rfl) (by rw [(fX4_c hV)]; decide) rfl uw_537 uw_534 uw_536 up_7 uw_5 hd_X4_areAllShut ⟨Nat.le_of_ble_eq_true rfl, Nat.le_of_ble_eq_true rfl⟩ ⟨Nat.zero_le _, Nat.zero_le _⟩ rfl rfl (hw_le ad [] rfl (Nat.le_of_ble_eq_true rfl)) dX4_allows_6 (kkI (fun t9 S8 H locs rt9 h G => ?_))
    obtain ⟨h10, h⟩ := h
    exact gx_zret C G hret h10 h dX4_allows_9
def PT_X4_stepToward (V : Vt) (o : Nat) (x1 : Option Nat) (S : Me) (Q : Int → Me → Prop) : Prop := ∃ z1 : Nat, x1 = some z1 ∧ isA (V.2.1 z1) ∧ (0 ≤ (S.1 z1 3) ∧ (S.1 z1 3) < 4) ∧ ((¬ (S.1 (o + 2) (Int.toNat (S.1 z1 3))) = (-2) → ((¬ (S.1 (o + 2) (Int.toNat (S.1 z1 3))) = (S.1 z1 4) → Q 1 S) ∧ ((S.1 (o + 2) (Int.toNat (S.1 z1 3))) = (S.1 z1 4) → PV_doneBy V z1 S (fun t9 S8 => Q t9 S8)))) ∧ ((S.1 (o + 2) (Int.toNat (S.1 z1 3))) = (-2) → Q 0 S))
theorem hd_X4_stepToward : yX4_stepToward.cls ≠ "java/lang/invoke/MethodHandle" ∧ yX4_stepToward.cls ≠ "java/lang/invoke/VarHandle" ∧ (parseMethodDescriptor yX4_stepToward.desc).map (fun d => d.parameters.length) = some 1 := by decide +kernel
set_option maxHeartbeats 4000000 in
set_option maxRecDepth 100000 in
theorem c_X4_stepToward (l : Launch) (D : va_G) (cy : ClassId × ClassId × ClassId × ClassId) (ad : Nat → Nat) {V : Vt} {S : Me} {o : Nat} {x1 : Option Nat} (hV : fX4 V o) (vx1 : ∀ z, x1 = some z → z < V.1) {Q : Int → Me → Prop} (h : PT_X4_stepToward V o x1 S Q) : KM l D cy yX4_stepToward cX4_stepToward 3 (Option.some Jvm.ClassFile.FieldType.int) 1 20 ad V S [.inr (some o), .inr x1] (qI Q) := by
  refine KM.of (by decide) rfl (Nat.le_of_ble_eq_true rfl) (own := RX4) (fun p e s m args below meth c A ls H locs eA C hret hml hmn hl G => ?_)
  have hl : lo ad ls [some (.inr (some o)), some (.inr x1), none] := hl
  clear eA
  unfold PT_X4_stepToward at h
  refine gx_aload_n C hl dX4_stepToward_0 rfl ?_
  refine gx_getF C G rfl (fX4_o hV) (fo3_1 (fX4_c hV)) (fX4_openRows hV) uw_135 (fun _ h9 => h9) dX4_stepToward_1 ?_
  refine gx_aload_n C hl dX4_stepToward_4 rfl ?_
  obtain ⟨z1, hz1, tz1, h⟩ := h
  have lz1 := (vx1 z1 hz1)
  refine gx_getI C G hz1 lz1 (foA_3 tz1) uw_318 (fun _ h9 => h9) dX4_stepToward_5 ?_
  have r2 := G.r z1 3
  obtain ⟨h3, h⟩ := h
  refine gx_iald C G rfl (fX4_openRows_l hV) (fX4_openRows_t hV) r2 h3.1 (ixl (fX4_openRows_n hV) h3.2) dX4_stepToward_8 ?_
  have r4 := G.r (o + 2) (Int.toNat (S.1 z1 3))
  refine gx_istore_n C hl dX4_stepToward_9 (Nat.le_of_ble_eq_true rfl) (PL' := [some (.inr (some o)), some (.inr x1), some (.inl (S.1 (o + 2) (Int.toNat (S.1 z1 3))))]) rfl (fun ls hl => ?_)
  refine gx_iload_n C hl dX4_stepToward_10 rfl ?_
  refine gx_bipush C dX4_stepToward_11 (by decide) ?_
  refine gx_icmp_ne (tgt := 18) C r4 (show rng (-2) by decide) dX4_stepToward_13 (by decide) (fun c5 => ?_) (fun c5 => ?_)
  · have h := h.1 c5
    refine gx_iload_n C hl dX4_stepToward_18 rfl ?_
    refine gx_aload_n C hl dX4_stepToward_19 rfl ?_
    refine gx_getI C G hz1 lz1 (foA_4 tz1) uw_323 (fun _ h9 => h9) dX4_stepToward_20 ?_
    have r6 := G.r z1 4
    refine gx_icmp_ne (tgt := 33) C r4 r6 dX4_stepToward_23 (by decide) (fun c7 => ?_) (fun c7 => ?_)
    · have h := h.1 c7
      refine gx_iconst C dX4_stepToward_33 ?_
      exact gx_iret C G hret (show rng 1 by decide) h dX4_stepToward_34
    · have h := h.2 c7
      refine gx_aload_n C hl dX4_stepToward_26 rfl ?_
      refine gv_4_35 C G hl hml hz1 lz1 tz1 h ⟨Nat.le_of_ble_eq_true rfl, Nat.le_of_ble_eq_true rfl⟩ ⟨Nat.zero_le _, Nat.zero_le _⟩ (hw_le ad [] rfl (Nat.le_of_ble_eq_true rfl)) dX4_stepToward_27 (fun t9 S8 H locs rt9 h G => ?_)
      refine gx_goto (tgt := 34) C dX4_stepToward_30 (by decide) ?_
      exact gx_iret C G hret rt9 h dX4_stepToward_34
  · have h := h.2 c5
    refine gx_iconst C dX4_stepToward_16 ?_
    exact gx_iret C G hret (show rng 0 by decide) h dX4_stepToward_17
def PT_X4_openRow (V : Vt) (o : Nat) (x1 : Int) (x2 : Int) (S : Me) (Q : Me → Prop) : Prop := (0 ≤ x1 ∧ x1 < 4) ∧ ∀ S2 : Me, S2 = sI S (o + 2) (Int.toNat x1) x2 → Q S2
theorem hd_X4_openRow : yX4_openRow.cls ≠ "java/lang/invoke/MethodHandle" ∧ yX4_openRow.cls ≠ "java/lang/invoke/VarHandle" ∧ (parseMethodDescriptor yX4_openRow.desc).map (fun d => d.parameters.length) = some 2 := by decide +kernel
set_option maxHeartbeats 4000000 in
set_option maxRecDepth 100000 in
theorem c_X4_openRow (l : Launch) (D : va_G) (cy : ClassId × ClassId × ClassId × ClassId) (ad : Nat → Nat) {V : Vt} {S : Me} {o : Nat} {x1 : Int} {x2 : Int} (hV : fX4 V o) (rx1 : rng x1) (rx2 : rng x2) {Q : Me → Prop} (h : PT_X4_openRow V o x1 x2 S Q) : KM l D cy yX4_openRow cX4_openRow 3 (Option.none : Option Jvm.ClassFile.FieldType) 0 0 ad V S [.inr (some o), .inl x1, .inl x2] (qV Q) := by
  refine KM.of (by decide) rfl (Nat.le_of_ble_eq_true rfl) (own := RX4) (fun p e s m args below meth c A ls H locs eA C hret hml hmn hl G => ?_)
  have hl : lo ad ls [some (.inr (some o)), some (.inl x1), some (.inl x2)] := hl
  clear eA
  unfold PT_X4_openRow at h
  refine gx_aload_n C hl dX4_openRow_0 rfl ?_
  refine gx_getF C G rfl (fX4_o hV) (fo3_1 (fX4_c hV)) (fX4_openRows hV) uw_135 (fun _ h9 => h9) dX4_openRow_1 ?_
  refine gx_iload_n C hl dX4_openRow_4 rfl ?_
  refine gx_iload_n C hl dX4_openRow_5 rfl ?_
  obtain ⟨h1, h⟩ := h
  refine gx_iast C G rfl (fX4_openRows_l hV) (fX4_openRows_t hV) rx1 rx2 h1.1 (ixl (fX4_openRows_n hV) h1.2) dX4_openRow_6 (fun H locs G => ?_)
  obtain ⟨S2, eS2⟩ : ∃ q9 : Me, q9 = sI S (o + 2) (Int.toNat x1) x2 := ⟨_, rfl⟩
  have h := h S2 eS2
  rw [← eS2] at G
  exact gx_vret C G hret h dX4_openRow_7
def PT_X4_shutRow (V : Vt) (o : Nat) (x1 : Int) (S : Me) (Q : Me → Prop) : Prop := (0 ≤ x1 ∧ x1 < 4) ∧ ∀ S2 : Me, S2 = sI S (o + 2) (Int.toNat x1) (-2) → Q S2
theorem hd_X4_shutRow : yX4_shutRow.cls ≠ "java/lang/invoke/MethodHandle" ∧ yX4_shutRow.cls ≠ "java/lang/invoke/VarHandle" ∧ (parseMethodDescriptor yX4_shutRow.desc).map (fun d => d.parameters.length) = some 1 := by decide +kernel
set_option maxHeartbeats 4000000 in
set_option maxRecDepth 100000 in
theorem c_X4_shutRow (l : Launch) (D : va_G) (cy : ClassId × ClassId × ClassId × ClassId) (ad : Nat → Nat) {V : Vt} {S : Me} {o : Nat} {x1 : Int} (hV : fX4 V o) (rx1 : rng x1) {Q : Me → Prop} (h : PT_X4_shutRow V o x1 S Q) : KM l D cy yX4_shutRow cX4_shutRow 2 (Option.none : Option Jvm.ClassFile.FieldType) 0 0 ad V S [.inr (some o), .inl x1] (qV Q) := by
  refine KM.of (by decide) rfl (Nat.le_of_ble_eq_true rfl) (own := RX4) (fun p e s m args below meth c A ls H locs eA C hret hml hmn hl G => ?_)
  have hl : lo ad ls [some (.inr (some o)), some (.inl x1)] := hl
  clear eA
  unfold PT_X4_shutRow at h
  refine gx_aload_n C hl dX4_shutRow_0 rfl ?_
  refine gx_getF C G rfl (fX4_o hV) (fo3_1 (fX4_c hV)) (fX4_openRows hV) uw_135 (fun _ h9 => h9) dX4_shutRow_1 ?_
  refine gx_iload_n C hl dX4_shutRow_4 rfl ?_
  refine gx_bipush C dX4_shutRow_5 (by decide) ?_
  obtain ⟨h1, h⟩ := h
  refine gx_iast C G rfl (fX4_openRows_l hV) (fX4_openRows_t hV) rx1 (show rng (-2) by decide) h1.1 (ixl (fX4_openRows_n hV) h1.2) dX4_shutRow_7 (fun H locs G => ?_)
  obtain ⟨S2, eS2⟩ : ∃ q9 : Me, q9 = sI S (o + 2) (Int.toNat x1) (-2) := ⟨_, rfl⟩
  have h := h S2 eS2
  rw [← eS2] at G
  exact gx_vret C G hret h dX4_shutRow_8
def PT_X4_serve (V : Vt) (o : Nat) (x1 : Option Nat) (S : Me) (Q : Me → Prop) : Prop := ∃ z1 : Nat, x1 = some z1 ∧ isA (V.2.1 z1) ∧ (0 ≤ (S.1 z1 2) ∧ (S.1 z1 2) < 1024) ∧ PV_answerFrom V z1 (S.1 (o + 1) (Int.toNat (S.1 z1 2))) S (fun t6 S5 => ∀ S7 : Me, S7 = sI S5 z1 7 t6 → PV_octetAfter V z1 (S.1 (o + 1) (Int.toNat (S.1 z1 2))) S7 (fun t10 S9 => (0 ≤ (S7.1 z1 2) ∧ (S7.1 z1 2) < 1024) ∧ ∀ S12 : Me, S12 = sI S9 (o + 1) (Int.toNat (S7.1 z1 2)) t10 → Q S12))
theorem hd_X4_serve : yX4_serve.cls ≠ "java/lang/invoke/MethodHandle" ∧ yX4_serve.cls ≠ "java/lang/invoke/VarHandle" ∧ (parseMethodDescriptor yX4_serve.desc).map (fun d => d.parameters.length) = some 1 := by decide +kernel
set_option maxHeartbeats 4000000 in
set_option maxRecDepth 100000 in
theorem c_X4_serve (l : Launch) (D : va_G) (cy : ClassId × ClassId × ClassId × ClassId) (ad : Nat → Nat) {V : Vt} {S : Me} {o : Nat} {x1 : Option Nat} (hV : fX4 V o) (vx1 : ∀ z, x1 = some z → z < V.1) {Q : Me → Prop} (h : PT_X4_serve V o x1 S Q) : KM l D cy yX4_serve cX4_serve 3 (Option.none : Option Jvm.ClassFile.FieldType) 1 21 ad V S [.inr (some o), .inr x1] (qV Q) := by
  refine KM.of (by decide) rfl (Nat.le_of_ble_eq_true rfl) (own := RX4) (fun p e s m args below meth c A ls H locs eA C hret hml hmn hl G => ?_)
  have hl : lo ad ls [some (.inr (some o)), some (.inr x1), none] := hl
  clear eA
  unfold PT_X4_serve at h
  refine gx_aload_n C hl dX4_serve_0 rfl ?_
  refine gx_getF C G rfl (fX4_o hV) (fo3_0 (fX4_c hV)) (fX4_octets hV) uw_133 (fun _ h9 => h9) dX4_serve_1 ?_
  refine gx_aload_n C hl dX4_serve_4 rfl ?_
  obtain ⟨z1, hz1, tz1, h⟩ := h
  have lz1 := (vx1 z1 hz1)
  refine gx_getI C G hz1 lz1 (foA_2 tz1) uw_314 (fun _ h9 => h9) dX4_serve_5 ?_
  have r2 := G.r z1 2
  obtain ⟨h3, h⟩ := h
  refine gx_iald C G rfl (fX4_octets_l hV) (fX4_octets_t hV) r2 h3.1 (ixl (fX4_octets_n hV) h3.2) dX4_serve_8 ?_
  have r4 := G.r (o + 1) (Int.toNat (S.1 z1 2))
  refine gx_istore_n C hl dX4_serve_9 (Nat.le_of_ble_eq_true rfl) (PL' := [some (.inr (some o)), some (.inr x1), some (.inl (S.1 (o + 1) (Int.toNat (S.1 z1 2))))]) rfl (fun ls hl => ?_)
  refine gx_aload_n C hl dX4_serve_10 rfl ?_
  refine gx_aload_n C hl dX4_serve_11 rfl ?_
  refine gx_iload_n C hl dX4_serve_12 rfl ?_
  refine gv_4_42 C G hl hml hz1 lz1 tz1 r4 h ⟨Nat.le_of_ble_eq_true rfl, Nat.le_of_ble_eq_true rfl⟩ ⟨Nat.zero_le _, Nat.zero_le _⟩ (hw_le ad [.inr x1] rfl (Nat.le_of_ble_eq_true rfl)) dX4_serve_13 (fun t6 S5 H locs rt6 h G => ?_)
  refine gx_putI C G hz1 lz1 (foA_7 tz1) rt6 uw_333 (fun _ h9 => h9) dX4_serve_16 (fun H locs G => ?_)
  obtain ⟨S7, eS7⟩ : ∃ q9 : Me, q9 = sI S5 z1 7 t6 := ⟨_, rfl⟩
  have h := h S7 eS7
  rw [← eS7] at G
  refine gx_aload_n C hl dX4_serve_19 rfl ?_
  refine gx_getF C G rfl (fX4_o hV) (fo3_0 (fX4_c hV)) (fX4_octets hV) uw_133 (fun _ h9 => h9) dX4_serve_20 ?_
  refine gx_aload_n C hl dX4_serve_23 rfl ?_
  refine gx_getI C G hz1 lz1 (foA_2 tz1) uw_314 (fun _ h9 => h9) dX4_serve_24 ?_
  have r8 := G.r z1 2
  refine gx_aload_n C hl dX4_serve_27 rfl ?_
  refine gx_iload_n C hl dX4_serve_28 rfl ?_
  refine gv_4_48 C G hl hml hz1 lz1 tz1 r4 h ⟨Nat.le_of_ble_eq_true rfl, Nat.le_of_ble_eq_true rfl⟩ ⟨Nat.zero_le _, Nat.zero_le _⟩ (hw_le ad [.inl (S7.1 z1 2), .inr (some (o + 1))] rfl (Nat.le_of_ble_eq_true rfl)) dX4_serve_29 (fun t10 S9 H locs rt10 h G => ?_)
  obtain ⟨h11, h⟩ := h
  refine gx_iast C G rfl (fX4_octets_l hV) (fX4_octets_t hV) r8 rt10 h11.1 (ixl (fX4_octets_n hV) h11.2) dX4_serve_32 (fun H locs G => ?_)
  obtain ⟨S12, eS12⟩ : ∃ q9 : Me, q9 = sI S9 (o + 1) (Int.toNat (S7.1 z1 2)) t10 := ⟨_, rfl⟩
  have h := h S12 eS12
  rw [← eS12] at G
  exact gx_vret C G hret h dX4_serve_33
def PT_X1_has (V : Vt) (o : Nat) (x1 : Int) (S : Me) (Q : Int → Me → Prop) : Prop := ((x1 < 0 → Q 0 S) ∧ (¬ x1 < 0 → (((S.1 o 7) ≤ x1 → Q 0 S) ∧ (¬ (S.1 o 7) ≤ x1 → Q 1 S))))
theorem hd_X1_has : yX1_has.cls ≠ "java/lang/invoke/MethodHandle" ∧ yX1_has.cls ≠ "java/lang/invoke/VarHandle" ∧ (parseMethodDescriptor yX1_has.desc).map (fun d => d.parameters.length) = some 1 := by decide +kernel
set_option maxHeartbeats 4000000 in
set_option maxRecDepth 100000 in
theorem c_X1_has (l : Launch) (D : va_G) (cy : ClassId × ClassId × ClassId × ClassId) (ad : Nat → Nat) {V : Vt} {S : Me} {o : Nat} {x1 : Int} (hV : fX1 V o) (rx1 : rng x1) {Q : Int → Me → Prop} (h : PT_X1_has V o x1 S Q) : KM l D cy yX1_has cX1_has 2 (Option.some Jvm.ClassFile.FieldType.boolean) 0 0 ad V S [.inr (some o), .inl x1] (qI Q) := by
  refine KM.of (by decide) rfl (Nat.le_of_ble_eq_true rfl) (own := RX1) (fun p e s m args below meth c A ls H locs eA C hret hml hmn hl G => ?_)
  have hl : lo ad ls [some (.inr (some o)), some (.inl x1)] := hl
  clear eA
  unfold PT_X1_has at h
  refine gx_iload_n C hl dX1_has_0 rfl ?_
  refine gx_if_lt (tgt := 16) C rx1 dX1_has_1 (by decide) (fun c1 => ?_) (fun c1 => ?_)
  · have h := h.1 c1
    refine gx_iconst C dX1_has_16 ?_
    exact gx_zret C G hret (Or.inl rfl) h dX1_has_17
  · have h := h.2 c1
    refine gx_iload_n C hl dX1_has_4 rfl ?_
    refine gx_aload_n C hl dX1_has_5 rfl ?_
    refine gx_getI C G rfl (fX1_o hV) (fo0_7 (fX1_c hV)) uw_104 (fun _ h9 => h9) dX1_has_6 ?_
    have r2 := G.r o 7
    refine gx_icmp_ge (tgt := 16) C rx1 r2 dX1_has_9 (by decide) (fun c3 => ?_) (fun c3 => ?_)
    · have h := h.1 c3
      refine gx_iconst C dX1_has_16 ?_
      exact gx_zret C G hret (Or.inl rfl) h dX1_has_17
    · have h := h.2 c3
      refine gx_iconst C dX1_has_12 ?_
      refine gx_goto (tgt := 17) C dX1_has_13 (by decide) ?_
      exact gx_zret C G hret (Or.inr rfl) h dX1_has_17
def B_X1_whereOf_45 (V : Vt) (x1 : Int) (x2 : Option Nat) (S : Me) (Q : Int → Me → Prop) : Prop := Q (-2) S
def B_X1_whereOf_37 (V : Vt) (x1 : Int) (x2 : Option Nat) (S : Me) (Q : Int → Me → Prop) : Prop := ∃ z1 : Nat, x2 = some z1 ∧ isA (V.2.1 z1) ∧ Q (Int.tmod (S.1 z1 2) 16) S
def PT_X1_whereOf (V : Vt) (x1 : Int) (x2 : Option Nat) (S : Me) (Q : Int → Me → Prop) : Prop := ((x1 = 0 → ∃ z3 : Nat, x2 = some z3 ∧ isA (V.2.1 z3) ∧ Q (S.1 z3 4) S) ∧ (x1 = 1 → B_X1_whereOf_45 V x1 x2 S Q) ∧ (x1 = 2 → B_X1_whereOf_37 V x1 x2 S Q) ∧ (x1 = 3 → B_X1_whereOf_37 V x1 x2 S Q) ∧ ((x1 < 0 ∨ 3 < x1) → B_X1_whereOf_45 V x1 x2 S Q))
theorem hd_X1_whereOf : yX1_whereOf.cls ≠ "java/lang/invoke/MethodHandle" ∧ yX1_whereOf.cls ≠ "java/lang/invoke/VarHandle" ∧ (parseMethodDescriptor yX1_whereOf.desc).map (fun d => d.parameters.length) = some 2 := by decide +kernel
set_option maxHeartbeats 4000000 in
set_option maxRecDepth 100000 in
theorem c_X1_whereOf (l : Launch) (D : va_G) (cy : ClassId × ClassId × ClassId × ClassId) (ad : Nat → Nat) {V : Vt} {S : Me} {x1 : Int} {x2 : Option Nat} (rx1 : rng x1) (vx2 : ∀ z, x2 = some z → z < V.1) {Q : Int → Me → Prop} (h : PT_X1_whereOf V x1 x2 S Q) : KM l D cy yX1_whereOf cX1_whereOf 2 (Option.some Jvm.ClassFile.FieldType.int) 0 0 ad V S [.inl x1, .inr x2] (qI Q) := by
  refine KM.of (by decide) rfl (Nat.le_of_ble_eq_true rfl) (own := RX1) (fun p e s m args below meth c A ls H locs eA C hret hml hmn hl G => ?_)
  have hl : lo ad ls [some (.inl x1), some (.inr x2)] := hl
  have b45 : ∀ (S : Me) (H : Heap) (locs : List Loc) (ls : Array Slot), lo ad ls [some (.inl x1), some (.inr x2)] → Gy D cy A s.heap ad V S H locs → B_X1_whereOf_45 V x1 x2 S Q → W p l e (rmx 0 0) s m args below meth c H locs 0 0 (qm below D cy ad V A args s (qI Q)) (F0 m 45 ls []) := by
    intro S H locs ls hl G h
    unfold B_X1_whereOf_45 at h
    refine gx_bipush C dX1_whereOf_45 (by decide) ?_
    exact gx_iret C G hret (show rng (-2) by decide) h dX1_whereOf_47
  have b37 : ∀ (S : Me) (H : Heap) (locs : List Loc) (ls : Array Slot), lo ad ls [some (.inl x1), some (.inr x2)] → Gy D cy A s.heap ad V S H locs → B_X1_whereOf_37 V x1 x2 S Q → W p l e (rmx 0 0) s m args below meth c H locs 0 0 (qm below D cy ad V A args s (qI Q)) (F0 m 37 ls []) := by
    intro S H locs ls hl G h
    unfold B_X1_whereOf_37 at h
    refine gx_aload_n C hl dX1_whereOf_37 rfl ?_
    obtain ⟨z1, hz1, tz1, h⟩ := h
    have lz1 := (vx2 z1 hz1)
    refine gx_getI C G hz1 lz1 (foA_2 tz1) uw_313 (fun _ h9 => h9) dX1_whereOf_38 ?_
    have r2 := G.r z1 2
    refine gx_bipush C dX1_whereOf_41 (by decide) ?_
    refine gx_irem C r2 (show rng 16 by decide) (by decide) dX1_whereOf_43 ?_
    exact gx_iret C G hret (rg_md r2) h dX1_whereOf_44
  clear eA
  unfold PT_X1_whereOf at h
  refine gx_iload_n C hl dX1_whereOf_0 rfl ?_
  by_cases c5 : x1 = 0
  · refine gx_tableIn (tgt := 32) C rx1 dX1_whereOf_1 0 c5 (by decide) (by decide) rfl (by decide) ?_
    have h := h.1 c5
    refine gx_aload_n C hl dX1_whereOf_32 rfl ?_
    obtain ⟨z3, hz3, tz3, h⟩ := h
    have lz3 := (vx2 z3 hz3)
    refine gx_getI C G hz3 lz3 (foA_4 tz3) uw_322 (fun _ h9 => h9) dX1_whereOf_33 ?_
    have r4 := G.r z3 4
    exact gx_iret C G hret r4 h dX1_whereOf_36
  · by_cases c6 : x1 = 1
    · refine gx_tableIn (tgt := 45) C rx1 dX1_whereOf_1 1 c6 (by decide) (by decide) rfl (by decide) ?_
      have h := h.2.1 c6
      exact b45 S H locs ls hl G h
    · by_cases c7 : x1 = 2
      · refine gx_tableIn (tgt := 37) C rx1 dX1_whereOf_1 2 c7 (by decide) (by decide) rfl (by decide) ?_
        have h := h.2.2.1 c7
        exact b37 S H locs ls hl G h
      · by_cases c8 : x1 = 3
        · refine gx_tableIn (tgt := 37) C rx1 dX1_whereOf_1 3 c8 (by decide) (by decide) rfl (by decide) ?_
          have h := h.2.2.2.1 c8
          exact b37 S H locs ls hl G h
        · have c9 : x1 < 0 ∨ 3 < x1 := by omega
          refine gx_tableOut (tgt := 45) C rx1 dX1_whereOf_1 c9 (by decide) ?_
          have h := h.2.2.2.2 c9
          exact b45 S H locs ls hl G h
def B_X1_add_97 (V : Vt) (o : Nat) (x1 : Int) (x2 : Int) (x3 : Option Nat) (x4 : Int) (w0 : Option Nat) (w1 : Int) (w2 : Int) (S : Me) (Q : Me → Prop) : Prop := ∃ z1 : Nat, w0 = some z1 ∧ V.2.1 z1 = 12 ∧ (0 ≤ w1 ∧ w1 < (V.2.2.1 z1 : Int)) ∧ ∀ S3 : Me, S3 = sI S z1 (Int.toNat w1) w2 → (rng ((S3.1 o 7) + 1)) ∧ ∀ S6 : Me, S6 = sI S3 o 7 ((S3.1 o 7) + 1) → Q S6
def B_X1_add_75 (V : Vt) (o : Nat) (x1 : Int) (x2 : Int) (x3 : Option Nat) (x4 : Int) (w0 : Option Nat) (w1 : Int) (w2 : Int) (S : Me) (Q : Me → Prop) : Prop := ∃ z7 : Nat, w0 = some z7 ∧ V.2.1 z7 = 12 ∧ (0 ≤ w1 ∧ w1 < (V.2.2.1 z7 : Int)) ∧ ∀ S9 : Me, S9 = sI S z7 (Int.toNat w1) w2 → ((¬ x3 = none → ∃ z12 : Nat, x3 = some z12 ∧ isA (V.2.1 z12) ∧ B_X1_add_97 V o x1 x2 x3 x4 (some (o + 6)) (S9.1 o 7) (S9.1 z12 0) S9 Q) ∧ (x3 = none → B_X1_add_97 V o x1 x2 x3 x4 (some (o + 6)) (S9.1 o 7) (-2) S9 Q))
def PT_X1_add (V : Vt) (o : Nat) (x1 : Int) (x2 : Int) (x3 : Option Nat) (x4 : Int) (S : Me) (Q : Me → Prop) : Prop := (((S.1 o 7) < 400 → (0 ≤ (S.1 o 7) ∧ (S.1 o 7) < 400) ∧ ∀ S18 : Me, S18 = sI S (o + 1) (Int.toNat (S.1 o 7)) x4 → (0 ≤ (S18.1 o 7) ∧ (S18.1 o 7) < 400) ∧ ∀ S21 : Me, S21 = sI S18 (o + 2) (Int.toNat (S18.1 o 7)) x4 → (0 ≤ (S21.1 o 7) ∧ (S21.1 o 7) < 400) ∧ ∀ S24 : Me, S24 = sI S21 (o + 3) (Int.toNat (S21.1 o 7)) x1 → (0 ≤ (S24.1 o 7) ∧ (S24.1 o 7) < 400) ∧ ∀ S27 : Me, S27 = sI S24 (o + 4) (Int.toNat (S24.1 o 7)) x2 → ((¬ x3 = none → PT_X1_whereOf V x1 x3 S27 (fun t31 S30 => B_X1_add_75 V o x1 x2 x3 x4 (some (o + 5)) (S27.1 o 7) t31 S30 Q)) ∧ (x3 = none → B_X1_add_75 V o x1 x2 x3 x4 (some (o + 5)) (S27.1 o 7) (-2) S27 Q))) ∧ (¬ (S.1 o 7) < 400 → Q S))
theorem hd_X1_add : yX1_add.cls ≠ "java/lang/invoke/MethodHandle" ∧ yX1_add.cls ≠ "java/lang/invoke/VarHandle" ∧ (parseMethodDescriptor yX1_add.desc).map (fun d => d.parameters.length) = some 4 := by decide +kernel
set_option maxHeartbeats 4000000 in
set_option maxRecDepth 100000 in
theorem c_X1_add (l : Launch) (D : va_G) (cy : ClassId × ClassId × ClassId × ClassId) (ad : Nat → Nat) {V : Vt} {S : Me} {o : Nat} {x1 : Int} {x2 : Int} {x3 : Option Nat} {x4 : Int} (hV : fX1 V o) (rx1 : rng x1) (rx2 : rng x2) (vx3 : ∀ z, x3 = some z → z < V.1) (rx4 : rng x4) {Q : Me → Prop} (h : PT_X1_add V o x1 x2 x3 x4 S Q) : KM l D cy yX1_add cX1_add 5 (Option.none : Option Jvm.ClassFile.FieldType) 1 21 ad V S [.inr (some o), .inl x1, .inl x2, .inr x3, .inl x4] (qV Q) := by
  refine KM.of (by decide) rfl (Nat.le_of_ble_eq_true rfl) (own := RX1) (fun p e s m args below meth c A ls H locs eA C hret hml hmn hl G => ?_)
  have hl : lo ad ls [some (.inr (some o)), some (.inl x1), some (.inl x2), some (.inr x3), some (.inl x4)] := hl
  have b97 : ∀ (w0 : Option Nat) (w1 : Int) (w2 : Int) (S : Me) (H : Heap) (locs : List Loc) (ls : Array Slot), (∀ z, w0 = some z → z < V.1) → rng w1 → rng w2 → lo ad ls [some (.inr (some o)), some (.inl x1), some (.inl x2), some (.inr x3), some (.inl x4)] → Gy D cy A s.heap ad V S H locs → B_X1_add_97 V o x1 x2 x3 x4 w0 w1 w2 S Q → W p l e (rmx 1 21) s m args below meth c H locs 0 0 (qm below D cy ad V A args s (qV Q)) (F0 m 97 ls [vI w2, vI w1, vR ad w0]) := by
    intro w0 w1 w2 S H locs ls vw0 rw1 rw2 hl G h
    unfold B_X1_add_97 at h
    obtain ⟨z1, hz1, tz1, h⟩ := h
    have lz1 := (vw0 z1 hz1)
    obtain ⟨h2, h⟩ := h
    refine gx_iast C G hz1 lz1 tz1 rw1 rw2 h2.1 h2.2 dX1_add_97 (fun H locs G => ?_)
    obtain ⟨S3, eS3⟩ : ∃ q9 : Me, q9 = sI S z1 (Int.toNat w1) w2 := ⟨_, rfl⟩
    have h := h S3 eS3
    rw [← eS3] at G
    refine gx_aload_n C hl dX1_add_98 rfl ?_
    refine gx_dupR C dX1_add_99 ?_
    refine gx_getI C G rfl (fX1_o hV) (fo0_7 (fX1_c hV)) uw_104 (fun _ h9 => h9) dX1_add_100 ?_
    have r4 := G.r o 7
    refine gx_iconst C dX1_add_103 ?_
    obtain ⟨h5, h⟩ := h
    refine gx_iadd C dX1_add_104 ?_
    refine gx_putI C G rfl (fX1_o hV) (fo0_7 (fX1_c hV)) h5 uw_104 (fun _ h9 => h9) dX1_add_105 (fun H locs G => ?_)
    obtain ⟨S6, eS6⟩ : ∃ q9 : Me, q9 = sI S3 o 7 ((S3.1 o 7) + 1) := ⟨_, rfl⟩
    have h := h S6 eS6
    rw [← eS6] at G
    exact gx_vret C G hret h dX1_add_108
  have b75 : ∀ (w0 : Option Nat) (w1 : Int) (w2 : Int) (S : Me) (H : Heap) (locs : List Loc) (ls : Array Slot), (∀ z, w0 = some z → z < V.1) → rng w1 → rng w2 → lo ad ls [some (.inr (some o)), some (.inl x1), some (.inl x2), some (.inr x3), some (.inl x4)] → Gy D cy A s.heap ad V S H locs → B_X1_add_75 V o x1 x2 x3 x4 w0 w1 w2 S Q → W p l e (rmx 1 21) s m args below meth c H locs 0 0 (qm below D cy ad V A args s (qV Q)) (F0 m 75 ls [vI w2, vI w1, vR ad w0]) := by
    intro w0 w1 w2 S H locs ls vw0 rw1 rw2 hl G h
    unfold B_X1_add_75 at h
    obtain ⟨z7, hz7, tz7, h⟩ := h
    have lz7 := (vw0 z7 hz7)
    obtain ⟨h8, h⟩ := h
    refine gx_iast C G hz7 lz7 tz7 rw1 rw2 h8.1 h8.2 dX1_add_75 (fun H locs G => ?_)
    obtain ⟨S9, eS9⟩ : ∃ q9 : Me, q9 = sI S z7 (Int.toNat w1) w2 := ⟨_, rfl⟩
    have h := h S9 eS9
    rw [← eS9] at G
    refine gx_aload_n C hl dX1_add_76 rfl ?_
    refine gx_getF C G rfl (fX1_o hV) (fo0_5 (fX1_c hV)) (fX1_asks hV) uw_101 (fun _ h9 => h9) dX1_add_77 ?_
    refine gx_aload_n C hl dX1_add_80 rfl ?_
    refine gx_getI C G rfl (fX1_o hV) (fo0_7 (fX1_c hV)) uw_104 (fun _ h9 => h9) dX1_add_81 ?_
    have r10 := G.r o 7
    refine gx_aload_n C hl dX1_add_84 rfl ?_
    refine gx_ifnonnull (tgt := 93) C dX1_add_85 (by decide) (fun c11 => ?_) (fun c11 => ?_)
    · have h := h.1 c11
      refine gx_aload_n C hl dX1_add_93 rfl ?_
      obtain ⟨z12, hz12, tz12, h⟩ := h
      have lz12 := (vx3 z12 hz12)
      refine gx_getI C G hz12 lz12 (foA_0 tz12) uw_307 (fun _ h9 => h9) dX1_add_94 ?_
      have r13 := G.r z12 0
      exact b97 (some (o + 6)) (S9.1 o 7) (S9.1 z12 0) S9 H locs ls (vsome (fX1_asks_l hV)) r10 r13 hl G h
    · have h := h.2 c11
      refine gx_bipush C dX1_add_88 (by decide) ?_
      refine gx_goto (tgt := 97) C dX1_add_90 (by decide) ?_
      exact b97 (some (o + 6)) (S9.1 o 7) (-2) S9 H locs ls (vsome (fX1_asks_l hV)) r10 (show rng (-2) by decide) hl G h
  clear eA
  unfold PT_X1_add at h
  refine gx_aload_n C hl dX1_add_0 rfl ?_
  refine gx_getI C G rfl (fX1_o hV) (fo0_7 (fX1_c hV)) uw_104 (fun _ h9 => h9) dX1_add_1 ?_
  have r14 := G.r o 7
  refine gx_sipush C dX1_add_4 (by decide) ?_
  refine gx_icmp_lt (tgt := 11) C r14 (show rng 400 by decide) dX1_add_7 (by decide) (fun c15 => ?_) (fun c15 => ?_)
  · have h := h.1 c15
    refine gx_aload_n C hl dX1_add_11 rfl ?_
    refine gx_getF C G rfl (fX1_o hV) (fo0_0 (fX1_c hV)) (fX1_ticks hV) uw_91 (fun _ h9 => h9) dX1_add_12 ?_
    refine gx_aload_n C hl dX1_add_15 rfl ?_
    refine gx_getI C G rfl (fX1_o hV) (fo0_7 (fX1_c hV)) uw_104 (fun _ h9 => h9) dX1_add_16 ?_
    have r16 := G.r o 7
    refine gx_iload C hl dX1_add_19 rfl ?_
    obtain ⟨h17, h⟩ := h
    refine gx_iast C G rfl (fX1_ticks_l hV) (fX1_ticks_t hV) r16 rx4 h17.1 (ixl (fX1_ticks_n hV) h17.2) dX1_add_21 (fun H locs G => ?_)
    obtain ⟨S18, eS18⟩ : ∃ q9 : Me, q9 = sI S (o + 1) (Int.toNat (S.1 o 7)) x4 := ⟨_, rfl⟩
    have h := h S18 eS18
    rw [← eS18] at G
    refine gx_aload_n C hl dX1_add_22 rfl ?_
    refine gx_getF C G rfl (fX1_o hV) (fo0_1 (fX1_c hV)) (fX1_forged hV) uw_93 (fun _ h9 => h9) dX1_add_23 ?_
    refine gx_aload_n C hl dX1_add_26 rfl ?_
    refine gx_getI C G rfl (fX1_o hV) (fo0_7 (fX1_c hV)) uw_104 (fun _ h9 => h9) dX1_add_27 ?_
    have r19 := G.r o 7
    refine gx_iload C hl dX1_add_30 rfl ?_
    obtain ⟨h20, h⟩ := h
    refine gx_iast C G rfl (fX1_forged_l hV) (fX1_forged_t hV) r19 rx4 h20.1 (ixl (fX1_forged_n hV) h20.2) dX1_add_32 (fun H locs G => ?_)
    obtain ⟨S21, eS21⟩ : ∃ q9 : Me, q9 = sI S18 (o + 2) (Int.toNat (S18.1 o 7)) x4 := ⟨_, rfl⟩
    have h := h S21 eS21
    rw [← eS21] at G
    refine gx_aload_n C hl dX1_add_33 rfl ?_
    refine gx_getF C G rfl (fX1_o hV) (fo0_2 (fX1_c hV)) (fX1_which hV) uw_95 (fun _ h9 => h9) dX1_add_34 ?_
    refine gx_aload_n C hl dX1_add_37 rfl ?_
    refine gx_getI C G rfl (fX1_o hV) (fo0_7 (fX1_c hV)) uw_104 (fun _ h9 => h9) dX1_add_38 ?_
    have r22 := G.r o 7
    refine gx_iload_n C hl dX1_add_41 rfl ?_
    obtain ⟨h23, h⟩ := h
    refine gx_iast C G rfl (fX1_which_l hV) (fX1_which_t hV) r22 rx1 h23.1 (ixl (fX1_which_n hV) h23.2) dX1_add_42 (fun H locs G => ?_)
    obtain ⟨S24, eS24⟩ : ∃ q9 : Me, q9 = sI S21 (o + 3) (Int.toNat (S21.1 o 7)) x1 := ⟨_, rfl⟩
    have h := h S24 eS24
    rw [← eS24] at G
    refine gx_aload_n C hl dX1_add_43 rfl ?_
    refine gx_getF C G rfl (fX1_o hV) (fo0_3 (fX1_c hV)) (fX1_banks hV) uw_97 (fun _ h9 => h9) dX1_add_44 ?_
    refine gx_aload_n C hl dX1_add_47 rfl ?_
    refine gx_getI C G rfl (fX1_o hV) (fo0_7 (fX1_c hV)) uw_104 (fun _ h9 => h9) dX1_add_48 ?_
    have r25 := G.r o 7
    refine gx_iload_n C hl dX1_add_51 rfl ?_
    obtain ⟨h26, h⟩ := h
    refine gx_iast C G rfl (fX1_banks_l hV) (fX1_banks_t hV) r25 rx2 h26.1 (ixl (fX1_banks_n hV) h26.2) dX1_add_52 (fun H locs G => ?_)
    obtain ⟨S27, eS27⟩ : ∃ q9 : Me, q9 = sI S24 (o + 4) (Int.toNat (S24.1 o 7)) x2 := ⟨_, rfl⟩
    have h := h S27 eS27
    rw [← eS27] at G
    refine gx_aload_n C hl dX1_add_53 rfl ?_
    refine gx_getF C G rfl (fX1_o hV) (fo0_4 (fX1_c hV)) (fX1_wheres hV) uw_99 (fun _ h9 => h9) dX1_add_54 ?_
    refine gx_aload_n C hl dX1_add_57 rfl ?_
    refine gx_getI C G rfl (fX1_o hV) (fo0_7 (fX1_c hV)) uw_104 (fun _ h9 => h9) dX1_add_58 ?_
    have r28 := G.r o 7
    refine gx_aload_n C hl dX1_add_61 rfl ?_
    refine gx_ifnonnull (tgt := 70) C dX1_add_62 (by decide) (fun c29 => ?_) (fun c29 => ?_)
    · have h := h.1 c29
      refine gx_iload_n C hl dX1_add_70 rfl ?_
      refine gx_aload_n C hl dX1_add_71 rfl ?_
      refine gx_callS C G hl hml (c_X1_whereOf l D cy ad rx1 vx3 h) uw_610 uw_608 uw_609 uw_4 hd_X1_whereOf ⟨Nat.le_of_ble_eq_true rfl, Nat.le_of_ble_eq_true rfl⟩ ⟨Nat.zero_le _, Nat.zero_le _⟩ rfl rfl (hw_le ad [.inl (S27.1 o 7), .inr (some (o + 5))] rfl (Nat.le_of_ble_eq_true rfl)) dX1_add_72 (kkI (fun t31 S30 H locs rt31 h G => ?_))
      exact b75 (some (o + 5)) (S27.1 o 7) t31 S30 H locs ls (vsome (fX1_wheres_l hV)) r28 rt31 hl G h
    · have h := h.2 c29
      refine gx_bipush C dX1_add_65 (by decide) ?_
      refine gx_goto (tgt := 75) C dX1_add_67 (by decide) ?_
      exact b75 (some (o + 5)) (S27.1 o 7) (-2) S27 H locs ls (vsome (fX1_wheres_l hV)) r28 (show rng (-2) by decide) hl G h
  · have h := h.2 c15
    exact gx_vret C G hret h dX1_add_10
def PT_X8_hold (V : Vt) (o : Nat) (x1 : Option Nat) (x2 : Option Nat) (x3 : Int) (S : Me) (Q : Me → Prop) : Prop := ∀ S1 : Me, S1 = sP S o 0 x1 → ∀ S2 : Me, S2 = sP S1 o 1 x2 → (x3 = 0 ∨ x3 = 1) ∧ ∀ S4 : Me, S4 = sI S2 o 2 x3 → Q S4
theorem hd_X8_hold : yX8_hold.cls ≠ "java/lang/invoke/MethodHandle" ∧ yX8_hold.cls ≠ "java/lang/invoke/VarHandle" ∧ (parseMethodDescriptor yX8_hold.desc).map (fun d => d.parameters.length) = some 3 := by decide +kernel
set_option maxHeartbeats 4000000 in
set_option maxRecDepth 100000 in
theorem c_X8_hold (l : Launch) (D : va_G) (cy : ClassId × ClassId × ClassId × ClassId) (ad : Nat → Nat) {V : Vt} {S : Me} {o : Nat} {x1 : Option Nat} {x2 : Option Nat} {x3 : Int} (ho : o < V.1) (ht : V.2.1 o = 7) (vx1 : ∀ z, x1 = some z → z < V.1) (vx2 : ∀ z, x2 = some z → z < V.1) (rx3 : rng x3) {Q : Me → Prop} (h : PT_X8_hold V o x1 x2 x3 S Q) : KM l D cy yX8_hold cX8_hold 4 (Option.none : Option Jvm.ClassFile.FieldType) 0 0 ad V S [.inr (some o), .inr x1, .inr x2, .inl x3] (qV Q) := by
  refine KM.of (by decide) rfl (Nat.le_of_ble_eq_true rfl) (own := RX8) (fun p e s m args below meth c A ls H locs eA C hret hml hmn hl G => ?_)
  have hl : lo ad ls [some (.inr (some o)), some (.inr x1), some (.inr x2), some (.inl x3)] := hl
  clear eA
  unfold PT_X8_hold at h
  refine gx_aload_n C hl dX8_hold_0 rfl ?_
  refine gx_aload_n C hl dX8_hold_1 rfl ?_
  refine gx_putP C G rfl ho (fo7_0 ht) (Or.inl ⟨_, rfl⟩) vx1 uw_202 (fun _ h9 => h9) dX8_hold_2 (fun H locs G => ?_)
  obtain ⟨S1, eS1⟩ : ∃ q9 : Me, q9 = sP S o 0 x1 := ⟨_, rfl⟩
  have h := h S1 eS1
  rw [← eS1] at G
  refine gx_aload_n C hl dX8_hold_5 rfl ?_
  refine gx_aload_n C hl dX8_hold_6 rfl ?_
  refine gx_putP C G rfl ho (fo7_1 ht) (Or.inr ⟨_, rfl⟩) vx2 uw_204 (fun _ h9 => h9) dX8_hold_7 (fun H locs G => ?_)
  obtain ⟨S2, eS2⟩ : ∃ q9 : Me, q9 = sP S1 o 1 x2 := ⟨_, rfl⟩
  have h := h S2 eS2
  rw [← eS2] at G
  refine gx_aload_n C hl dX8_hold_10 rfl ?_
  refine gx_iload_n C hl dX8_hold_11 rfl ?_
  obtain ⟨h3, h⟩ := h
  refine gx_putZ C G rfl ho (fo7_2 ht) h3 uw_206 (fun _ h9 => h9) dX8_hold_12 (fun H locs G => ?_)
  obtain ⟨S4, eS4⟩ : ∃ q9 : Me, q9 = sI S2 o 2 x3 := ⟨_, rfl⟩
  have h := h S4 eS4
  rw [← eS4] at G
  exact gx_vret C G hret h dX8_hold_15
def PT_X8_isEmpty (V : Vt) (o : Nat) (S : Me) (Q : Int → Me → Prop) : Prop := ((¬ (S.2 o 0) = none → Q 0 S) ∧ ((S.2 o 0) = none → ((¬ (S.2 o 1) = none → Q 0 S) ∧ ((S.2 o 1) = none → Q 1 S))))
theorem hd_X8_isEmpty : yX8_isEmpty.cls ≠ "java/lang/invoke/MethodHandle" ∧ yX8_isEmpty.cls ≠ "java/lang/invoke/VarHandle" ∧ (parseMethodDescriptor yX8_isEmpty.desc).map (fun d => d.parameters.length) = some 0 := by decide +kernel
set_option maxHeartbeats 4000000 in
set_option maxRecDepth 100000 in
theorem c_X8_isEmpty (l : Launch) (D : va_G) (cy : ClassId × ClassId × ClassId × ClassId) (ad : Nat → Nat) {V : Vt} {S : Me} {o : Nat} (ho : o < V.1) (ht : V.2.1 o = 7) {Q : Int → Me → Prop} (h : PT_X8_isEmpty V o S Q) : KM l D cy yX8_isEmpty cX8_isEmpty 1 (Option.some Jvm.ClassFile.FieldType.boolean) 0 0 ad V S [.inr (some o)] (qI Q) := by
  refine KM.of (by decide) rfl (Nat.le_of_ble_eq_true rfl) (own := RX8) (fun p e s m args below meth c A ls H locs eA C hret hml hmn hl G => ?_)
  have hl : lo ad ls [some (.inr (some o))] := hl
  clear eA
  unfold PT_X8_isEmpty at h
  refine gx_aload_n C hl dX8_isEmpty_0 rfl ?_
  refine gx_getP C G rfl ho (fo7_0 ht) uw_202 (fun _ h9 => h9) dX8_isEmpty_1 ?_
  have v1 := G.v o 0
  refine gx_ifnonnull (tgt := 18) C dX8_isEmpty_4 (by decide) (fun c2 => ?_) (fun c2 => ?_)
  · have h := h.1 c2
    refine gx_iconst C dX8_isEmpty_18 ?_
    exact gx_zret C G hret (Or.inl rfl) h dX8_isEmpty_19
  · have h := h.2 c2
    refine gx_aload_n C hl dX8_isEmpty_7 rfl ?_
    refine gx_getP C G rfl ho (fo7_1 ht) uw_204 (fun _ h9 => h9) dX8_isEmpty_8 ?_
    have v3 := G.v o 1
    refine gx_ifnonnull (tgt := 18) C dX8_isEmpty_11 (by decide) (fun c4 => ?_) (fun c4 => ?_)
    · have h := h.1 c4
      refine gx_iconst C dX8_isEmpty_18 ?_
      exact gx_zret C G hret (Or.inl rfl) h dX8_isEmpty_19
    · have h := h.2 c4
      refine gx_iconst C dX8_isEmpty_14 ?_
      refine gx_goto (tgt := 19) C dX8_isEmpty_15 (by decide) ?_
      exact gx_zret C G hret (Or.inr rfl) h dX8_isEmpty_19
def PT_X8_refusalWithoutAsk (V : Vt) (o : Nat) (S : Me) (Q : Int → Me → Prop) : Prop := PT_X8_isEmpty V o S (fun t2 S1 => ((t2 = 0 → Q (-12) S1) ∧ (¬ t2 = 0 → Q (-11) S1)))
theorem hd_X8_refusalWithoutAsk : yX8_refusalWithoutAsk.cls ≠ "java/lang/invoke/MethodHandle" ∧ yX8_refusalWithoutAsk.cls ≠ "java/lang/invoke/VarHandle" ∧ (parseMethodDescriptor yX8_refusalWithoutAsk.desc).map (fun d => d.parameters.length) = some 0 := by decide +kernel
set_option maxHeartbeats 4000000 in
set_option maxRecDepth 100000 in
theorem c_X8_refusalWithoutAsk (l : Launch) (D : va_G) (cy : ClassId × ClassId × ClassId × ClassId) (ad : Nat → Nat) {V : Vt} {S : Me} {o : Nat} (ho : o < V.1) (ht : V.2.1 o = 7) {Q : Int → Me → Prop} (h : PT_X8_refusalWithoutAsk V o S Q) : KM l D cy yX8_refusalWithoutAsk cX8_refusalWithoutAsk 1 (Option.some Jvm.ClassFile.FieldType.int) 1 20 ad V S [.inr (some o)] (qI Q) := by
  refine KM.of (by decide) rfl (Nat.le_of_ble_eq_true rfl) (own := RX8) (fun p e s m args below meth c A ls H locs eA C hret hml hmn hl G => ?_)
  have hl : lo ad ls [some (.inr (some o))] := hl
  clear eA
  unfold PT_X8_refusalWithoutAsk at h
  refine gx_aload_n C hl dX8_refusalWithoutAsk_0 rfl ?_
  refine gx_callV C G hl hml (c_X8_isEmpty l D cy ad ho ht h) rfl ho (by rw [ht]; rfl) (by rw [ht]; decide) rfl uw_789 uw_801 uw_787 uw_788 uw_8 hd_X8_isEmpty ⟨Nat.le_of_ble_eq_true rfl, Nat.le_of_ble_eq_true rfl⟩ ⟨Nat.zero_le _, Nat.zero_le _⟩ rfl rfl (hw_le ad [] rfl (Nat.le_of_ble_eq_true rfl)) dX8_refusalWithoutAsk_1 (kkI (fun t2 S1 H locs rt2 h G => ?_))
  refine gx_if_eq (tgt := 12) C rt2 dX8_refusalWithoutAsk_4 (by decide) (fun c3 => ?_) (fun c3 => ?_)
  · have h := h.1 c3
    refine gx_bipush C dX8_refusalWithoutAsk_12 (by decide) ?_
    exact gx_iret C G hret (show rng (-12) by decide) h dX8_refusalWithoutAsk_14
  · have h := h.2 c3
    refine gx_bipush C dX8_refusalWithoutAsk_7 (by decide) ?_
    refine gx_goto (tgt := 14) C dX8_refusalWithoutAsk_9 (by decide) ?_
    exact gx_iret C G hret (show rng (-11) by decide) h dX8_refusalWithoutAsk_14
