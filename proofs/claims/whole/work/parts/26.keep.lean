/-! ===== a copy of a row of ints ===== -/
def iS (V : Vt) (S : Me) (i0 : Nat → Int) : Me := (fun a k => if a = V.1 then i0 k else S.1 a k, fun a k => if a = V.1 then none else S.2 a k)
theorem wo_iw {V : Vt} {S : Me} {cy : ClassId × ClassId × ClassId × ClassId} {ad : Nat → Nat} {q L : Nat} {i0 : Nat → Int} (hp : ∀ a j z, S.2 a j = some z → z < V.1) (hf : ∀ a j z, V.2.2.2 a j = some z → z < V.1) : wo cy (nA V ad q) (nV V 12 L) (iS V S i0) = wo cy ad V S ++ [(q, .inl (cy.1, L, .inl (fun j => Int32.ofInt (i0 j))))] := by
  unfold wo
  show (List.range (V.1 + 1)).map _ = _
  rw [List.range_succ, List.map_append]
  congr 1
  · refine List.map_congr_left (fun a ha => ?_)
    have h : a ≠ V.1 := Nat.ne_of_lt (List.mem_range.mp ha)
    have e1 : (iS V S i0).1 a = S.1 a := by funext k; simp [iS, h]
    have e2 : (iS V S i0).2 a = S.2 a := by funext k; simp [iS, h]
    obtain ⟨g1, g2, g3⟩ := (exV.nw V 12 L).2 a (List.mem_range.mp ha)
    rw [nA_ag a (List.mem_range.mp ha), e1, e2, g1, g2, g3, cf_mv nA_ag (hp a) (hf a)]
  · have e1 : (iS V S i0).1 V.1 = i0 := by funext k; simp [iS]
    have e4 : (nV V 12 L).2.1 V.1 = 12 := by simp [nV]
    have e5 : (nV V 12 L).2.2.1 V.1 = L := by simp [nV]
    show [(nA V ad q V.1, _)] = _
    rw [e1, e5, cf_i e4]
    simp [nA]
section GC
variable {p : Program} {l : Launch} {e : Env} {R : Room} {s : State} {m : MethodId} {args : Array Value} {below : List Frame} {meth : Method} {c : Code} {H : Heap} {locs : List Loc} {cells slots : Nat} {Q : State → Prop} {cc : ByteArray} {pc : Nat} {ls : Array Slot} {rest : List Value} {D : va_G} {cy : ClassId × ClassId × ClassId × ClassId} {A : Nat → Prop} {ad : Nat → Nat} {V : Vt} {S : Me} {own : String} {PL : List (Option (Int ⊕ Option Nat))}
theorem Gy_iw {H1 : Heap} {q L : Nat} {i0 : Nat → Int} (G : Gy D cy A s.heap ad V S H locs) (hL : L ≤ 2147483647) (hi0 : ∀ k, rng (i0 k)) (hP : va_P D vwCl (wo cy ad V S ++ [(q, .inl (cy.1, L, .inl (fun j => Int32.ofInt (i0 j))))]) H1) (hD : va_D A (wo cy ad V S ++ [(q, .inl (cy.1, L, .inl (fun j => Int32.ofInt (i0 j))))])) (hS : va_S A s.heap H1 locs) : Gy D cy A s.heap (nA V ad q) (nV V 12 L) (iS V S i0) H1 locs := by
  have hlen : (wo cy ad V S).length = V.1 := by simp [wo]
  have hnew : (wo cy ad V S ++ [(q, (.inl (cy.1, L, .inl (fun j => Int32.ofInt (i0 j))) : va_E))])[V.1]? = some (q, .inl (cy.1, L, .inl (fun j => Int32.ofInt (i0 j)))) := by
    rw [List.getElem?_append_right (by rw [hlen]; exact Nat.le_refl _), hlen]; simp
  have hold : ∀ k, k < V.1 → (wo cy ad V S ++ [(q, (.inl (cy.1, L, .inl (fun j => Int32.ofInt (i0 j))) : va_E))])[k]? = some (ad k, cf cy ad (V.2.1 k) (V.2.2.1 k) (S.1 k) (S.2 k) (V.2.2.2 k)) := by
    intro k hk
    rw [List.getElem?_append_left (by rw [hlen]; exact hk)]
    exact wo_at hk
  have hne : ∀ k, k < V.1 → ad k ≠ q := fun k hk e9 => absurd (hD.1 k V.1 _ _ (hold k hk) hnew e9) (Nat.ne_of_lt hk)
  refine ⟨⟨by rw [wo_iw G.1.2.2.2.1 G.1.2.2.2.2.1]; exact hP, fun i j hi hj e9 => ?_, fun a k => ?_, fun a k z hz => ?_, fun a k z hz => ?_, fun a => ?_⟩, fun k hk => ?_, hS⟩
  · have hi : i < V.1 + 1 := hi
    have hj : j < V.1 + 1 := hj
    unfold nA at e9
    by_cases h1 : i = V.1 <;> by_cases h2 : j = V.1
    · omega
    · rw [if_pos h1, if_neg h2] at e9; exact absurd e9.symm (hne j (by omega))
    · rw [if_neg h1, if_pos h2] at e9; exact absurd e9 (hne i (by omega))
    · rw [if_neg h1, if_neg h2] at e9; exact G.1.2.1 i j (by omega) (by omega) e9
  · show rng (if a = V.1 then i0 k else S.1 a k)
    split
    · exact hi0 k
    · exact G.r a k
  · have hz : (if a = V.1 then none else S.2 a k) = some z := hz
    split at hz
    · cases hz
    · exact Nat.lt_succ_of_lt (G.v a k z hz)
  · have hz : (if a = V.1 then none else V.2.2.2 a k) = some z := hz
    split at hz
    · cases hz
    · exact Nat.lt_succ_of_lt (G.f a k z hz)
  · show (if a = V.1 then L else V.2.2.1 a) ≤ 2147483647
    split
    · exact hL
    · exact G.1.2.2.2.2.2 a
  · have hk : k < V.1 + 1 := hk
    by_cases h : k = V.1
    · rw [h, show nA V ad q V.1 = q by simp [nA]]; exact hD.2 V.1 _ hnew
    · rw [nA_ag k (by omega)]; exact G.2.1 k (by omega)
theorem gx_clone (C : Cx p s m args meth c cc RJ7 D cy A) (G : Gy D cy A s.heap ad V S H locs) (hlo : lo ad ls PL) (okP : ∀ v, some v ∈ PL → okv V v) (hml : c.maxLocals = PL.length) {z : Nat} (hzl : z < V.1) (ht : V.2.1 z = 12) (hR : 1 ≤ R.frames ∧ 14 ≤ R.locals) (hcells : cells + 1 ≤ R.cells) (hslots : slots + V.2.2.1 z ≤ R.slots) (hdg : decode cc pc = .ok (.invokevirtual 316, 3))
    (kk : ∀ (ad' : Nat → Nat) (V' : Vt) (S' : Me) (H1 : Heap), V' = nV V 12 (V.2.2.1 z) → S' = iS V S (S.1 z) → (∀ k, k < V.1 → ad' k = ad k) → exV V V' → lo ad' ls PL → Gy D cy A s.heap ad' V' S' H1 locs → W p l e R s m args below meth c H1 locs (cells + 1) (slots + V.2.2.1 z) Q (F0 m (pc + 3) ls [vR ad' (some V.1)])) : W p l e R s m args below meth c H locs cells slots Q (F0 m pc ls [vR ad (some z)]) := by
  have hts := C.2.2.2.1
  refine va_clone (ad := "[I") (ty := .int) (x := (V.2.2.1 z, .inl (fun j => Int32.ofInt (S.1 z j)))) C.1 C.2.1 (hml.trans hlo.1.symm) C.2.2.1 (hts _ uw_767) (hts _ uw_768) (hts _ uw_769) (hts _ uw_770) (hts _ uw_771) (C.2.2.2.2.1.2 _ (by decide +kernel)) C.2.2.2.2.1.1 G.1.1 G.D G.2.2 C.2.2.2.2.2.1 z 0 (wo_i hzl ht) rfl (C.2.2.2.2.1.1.2 0 _ rfl).2 (fun i v hv => ?_) hR.1 hR.2 hcells hslots hdg (fun q H1 _ hP hD hS => ?_)
  · rw [vp_cell_i] at hv
    unfold arrV at hv
    rw [Array.getElem?_eq_some_iff] at hv
    obtain ⟨h1, h2⟩ := hv
    rw [← h2]
    simp
    rfl
  · have h := kk (nA V ad q) _ _ H1 rfl rfl nA_ag (exV.nw V 12 _) (lo_mv nA_ag okP hlo) (Gy_iw G (G.1.2.2.2.2.2 z) (fun k => G.r z k) hP hD hS)
    rw [show vR (nA V ad q) (some V.1) = .ref q by simp [vR, va_rf, nA]] at h
    exact h
/-- invokestatic of a method that may make cells -/
theorem gx_callSA (C : Cx p s m args meth c cc own D cy A) (G : Gy D cy A s.heap ad V S H locs) (hlo : lo ad ls PL) (okP : ∀ v, some v ∈ PL → okv V v) (hml : c.maxLocals = PL.length) {y : MethodName} {bc : ByteArray} {n fr lc mc ms na index : Nat} {rt : Option FieldType} {vs : List (Int ⊕ Option Nat)} {Qo : Option (Int ⊕ Option Nat) → Vt → Me → Prop}
    (hK : KA l D cy y bc n rt fr lc mc ms ad V S vs Qo)
    (hcode : Cond.code y bc n rt ∈ UW) (hlink : Cond.methodLink own index y ∈ UW) (hstat : Cond.static y ∈ UW) (hini : Cond.initialized y.cls ∈ UW)
    (hd : y.cls ≠ "java/lang/invoke/MethodHandle" ∧ y.cls ≠ "java/lang/invoke/VarHandle" ∧ (parseMethodDescriptor y.desc).map (fun d => d.parameters.length) = some na) (hR : fr + 1 ≤ R.frames ∧ 8 + (n + 11) + lc ≤ R.locals) (hRc : cells + mc ≤ R.cells ∧ slots + ms ≤ R.slots)
    (hn : vs.length = na) (rs : List (Int ⊕ Option Nat)) (okS : ∀ v ∈ rs, okv V v) {st0 : List Value} (hst : st0 = (vs.map (vS ad)).reverse ++ rs.map (vS ad)) (hrl : rs.length ≤ 8) (hdg : decode cc pc = .ok (.invokestatic index, 3))
    (kk : ∀ (r : Option (Int ⊕ Option Nat)) (ad' : Nat → Nat) (V' : Vt) (S' : Me) (H1 : Heap) (locs1 : List Loc), (∀ v, r = some v → okv V' v) → Qo r V' S' → (∀ k, k < V.1 → ad' k = ad k) → exV V V' → lo ad' ls PL → Gy D cy A s.heap ad' V' S' H1 locs1 → W p l e R s m args below meth c H1 locs1 (cells + mc) (slots + ms) Q (F0 m (pc + 3) ls ((r.map (vS ad')).toList ++ rs.map (vS ad')))) : W p l e R s m args below meth c H locs cells slots Q (F0 m pc ls st0) := by
  have hts := C.2.2.2.1
  refine gx_backA C G hlo okP rs okS (va_runS (As := vs.map (vS ad)) (Ts := UW) (own := own) (nL := PL.length) ⟨C.1, C.2.1, hml, C.2.2.1, hts⟩ (hK H.size) ⟨callB_of (ws' := UW) na hts (uw_in hcode) rfl rfl rfl (hts _ hini) (hts _ hlink) hd hR, hts _ hstat⟩ ⟨KM.blind (y := y) (cc := bc), fun U hU hW => ⟨rfl, by rw [hU], by rw [hU]; exact G.1, Kx.warm hW C.2.2.2.2.1⟩⟩ rfl (by rw [List.length_map]; exact hn) hlo.1 hst (lv_room (hw_le ad rs rfl hrl)) hdg hRc) kk
end GC
theorem hd_J7_copyOf_59c91 : yJ7_copyOf_59c91.cls ≠ "java/lang/invoke/MethodHandle" ∧ yJ7_copyOf_59c91.cls ≠ "java/lang/invoke/VarHandle" ∧ (parseMethodDescriptor yJ7_copyOf_59c91.desc).map (fun d => d.parameters.length) = some 2 := by decide +kernel
set_option maxHeartbeats 4000000 in
set_option maxRecDepth 100000 in
/-- Arrays.copyOf(row, its length) -/
theorem c_J7_copyOf_59c91 (l : Launch) (D : va_G) (cy : ClassId × ClassId × ClassId × ClassId) (ad : Nat → Nat) {V : Vt} {S : Me} {z : Nat} {n : Int} (hzl : z < V.1) (ht : V.2.1 z = 12) (rn : rng n) (hn : n = (V.2.2.1 z : Int)) (hb : V.2.2.1 z ≤ 13) {Q : Option Nat → Vt → Me → Prop} (h : Q (some V.1) (nV V 12 (V.2.2.1 z)) (iS V S (S.1 z))) : KA l D cy yJ7_copyOf_59c91 cJ7_copyOf_59c91 3 (some (.array .int)) 1 14 1 13 ad V S [.inr (some z), .inl n] (aR Q) := by
  refine KA.of (by decide) rfl (Nat.le_of_ble_eq_true rfl) (own := RJ7) (fun p e s m args below meth c A ls H locs eA C hret hml hmn hl G => ?_)
  have hl : lo ad ls [some (.inr (some z)), some (.inl n), none] := hl
  have hlz := G.l z
  refine gx_iload_n C hl dJ7_copyOf_59c91_0 rfl ?_
  refine gx_aload_n C hl dJ7_copyOf_59c91_1 rfl ?_
  refine gx_alen C G rfl hzl ht dJ7_copyOf_59c91_2 ?_
  refine gx_icmp_ne (tgt := 14) C rn hlz dJ7_copyOf_59c91_3 (by decide) (fun c1 => absurd hn c1) (fun c1 => ?_)
  refine gx_aload_n C hl dJ7_copyOf_59c91_6 rfl ?_
  refine gx_clone C G hl (okP_S (okv_R (vsome hzl)) (okP_S (okv_I rn) (okP_N okP_0))) hml hzl ht ⟨Nat.le_of_ble_eq_true rfl, Nat.le_of_ble_eq_true rfl⟩ (Nat.le_of_ble_eq_true rfl) (by show 0 + V.2.2.1 z ≤ 13; omega) dJ7_copyOf_59c91_7 (fun ad' V' S' H1 eV eS hag1 hex1 hl G => ?_)
  have nl : V.1 < V'.1 := by rw [eV]; exact Nat.lt_succ_self _
  have nt : V'.2.1 V.1 = 12 := by rw [eV]; simp [nV]
  refine va_castA C.1 C.2.1 C.2.2.1 (C.2.2.2.1 _ uw_773) G.1.1 V.1 (wo_i nl nt) (C.2.2.2.2.1.1.2 0 _ rfl).2 dJ7_copyOf_59c91_10 ?_
  refine gx_aretA C G (fun k hk => hag1 k hk) hex1 hret (Or.inr ⟨_, rfl⟩) (vsome nl) (by rw [eV, eS]; exact h) dJ7_copyOf_59c91_13 ⟨Nat.le_of_ble_eq_true rfl, by show 0 + V.2.2.1 z ≤ 13; omega⟩

def B_X4_signedRow_22 (V : Vt) (o : Nat) (x1 : Int) (x2 : Int) (Q : Option Nat → Vt → Me → Prop) : Nat → (Option Nat → Int → Int → Me → Prop)
  | 0 => fun _ _ _ _ => False
  | n + 1 => fun y3 y4 y5 S => ((16 ≤ y5 → Q y3 V S) ∧ (¬ 16 ≤ y5 → (rng (y4 + y5)) ∧ (0 ≤ (y4 + y5) ∧ (y4 + y5) < 1024) ∧ (rng ((S.1 (o + 1) (Int.toNat (y4 + y5))) - 128)) ∧ ∃ z6 : Nat, y3 = some z6 ∧ V.2.1 z6 = 12 ∧ (0 ≤ y5 ∧ y5 < (V.2.2.1 z6 : Int)) ∧ ∀ S8 : Me, S8 = sI S z6 (Int.toNat y5) ((S.1 (o + 1) (Int.toNat (y4 + y5))) - 128) → (rng (y5 + 1)) ∧ B_X4_signedRow_22 V o x1 x2 Q n y3 y4 (y5 + 1) S8))
def PT_X4_signedRow (V : Vt) (o : Nat) (x1 : Int) (x2 : Int) (S : Me) (Q : Option Nat → Vt → Me → Prop) : Prop := ∀ U10 : Vt, U10 = V → ∀ V : Vt, V = nV U10 12 (Int.toNat 16) → ∀ S11 : Me, S11 = nS U10 S → (rng (x2 * 4)) ∧ (rng ((x2 * 4) + (bXor x1 (Int.tmod x2 4)))) ∧ (rng (((x2 * 4) + (bXor x1 (Int.tmod x2 4))) * 16)) ∧ (∃ n9 : Nat, B_X4_signedRow_22 V o x1 x2 Q n9 (some U10.1) (((x2 * 4) + (bXor x1 (Int.tmod x2 4))) * 16) 0 S11)
theorem hd_X4_signedRow : yX4_signedRow.cls ≠ "java/lang/invoke/MethodHandle" ∧ yX4_signedRow.cls ≠ "java/lang/invoke/VarHandle" ∧ (parseMethodDescriptor yX4_signedRow.desc).map (fun d => d.parameters.length) = some 2 := by decide +kernel
set_option maxHeartbeats 4000000 in
set_option maxRecDepth 100000 in
theorem c_X4_signedRow (l : Launch) (D : va_G) (cy : ClassId × ClassId × ClassId × ClassId) (ad : Nat → Nat) {V : Vt} {S : Me} {o : Nat} {x1 : Int} {x2 : Int} (hV : fX4 V o) (rx1 : rng x1) (rx2 : rng x2) {Q : Option Nat → Vt → Me → Prop} (h : PT_X4_signedRow V o x1 x2 S Q) : KA l D cy yX4_signedRow cX4_signedRow 6 (Option.some (Jvm.ClassFile.FieldType.array Jvm.ClassFile.FieldType.int)) 0 0 1 16 ad V S [.inr (some o), .inl x1, .inl x2] (aR Q) := by
  refine KA.of (by decide) rfl (Nat.le_of_ble_eq_true rfl) (own := RX4) (fun p e s m args below meth c A ls H locs eA C hret hml hmn hl G => ?_)
  have hl : lo ad ls [some (.inr (some o)), some (.inl x1), some (.inl x2), none, none, none] := hl
  obtain ⟨ad0, ead0⟩ : ∃ q : Nat → Nat, q = ad := ⟨_, rfl⟩
  obtain ⟨V0, eV0⟩ : ∃ q : Vt, q = V := ⟨_, rfl⟩
  have hag : ∀ k, k < V0.1 → ad k = ad0 k := fun k _ => by rw [ead0]
  have hex : exV V0 V := by rw [eV0]; exact exV.rf V
  rw [← ead0, ← eV0]
  clear eV0 ead0
  clear eA
  unfold PT_X4_signedRow at h
  refine gx_bipush C dX4_signedRow_0 (by decide) ?_
  obtain ⟨U10, rfl⟩ : ∃ q : Vt, q = V := ⟨_, rfl⟩
  have h := h U10 rfl
  refine gx_newa C G hl (okP_S (okv_R (vsome (fX4_o hV))) (okP_S (okv_I rx1) (okP_S (okv_I rx2) (okP_N (okP_N (okP_N okP_0)))))) (show rng 16 by decide) 16 (by decide) (by decide) (Nat.le_of_ble_eq_true rfl) (Nat.le_of_ble_eq_true rfl) (Nat.le_of_ble_eq_true rfl) [] rfl okS_0 dX4_signedRow_2 (fun ad V S11 H eV eS hag1 hex1 hl G => ?_)
  have h := h V eV S11 eS
  have nlU10 : U10.1 < V.1 := by rw [eV]; exact Nat.lt_succ_self _
  have ntU10 : V.2.1 U10.1 = 12 := by rw [eV]; simp [nV]
  have hV := fX4_x hex1 hV
  have hag := fun k hk => (hag1 k (hex.lt hk)).trans (hag k hk)
  have hex := hex.tr hex1
  have ngU10 : V.2.2.1 U10.1 = 16 := by rw [eV]; simp [nV]
  have b22 : ∀ (n : Nat) (y3 : Option Nat) (y4 : Int) (y5 : Int) (S : Me) (H : Heap) (locs : List Loc) (ls : Array Slot), (∀ z, y3 = some z → z < V.1) → rng y4 → rng y5 → lo ad ls [some (.inr (some o)), some (.inl x1), some (.inl x2), some (.inr y3), some (.inl y4), some (.inl y5)] → Gy D cy A s.heap ad V S H locs → B_X4_signedRow_22 V o x1 x2 Q n y3 y4 y5 S → W p l e (rmA 0 0 1 16) s m args below meth c H locs 1 16 (qmA below D cy ad0 V0 A args s 1 16 (aR Q)) (F0 m 22 ls []) := by
    intro n
    induction n with
    | zero =>
      intro y3 y4 y5 S H locs ls vy3 ry4 ry5 hl G h
      exact absurd h id
    | succ n ih =>
      intro y3 y4 y5 S H locs ls vy3 ry4 ry5 hl G h
      rw [B_X4_signedRow_22] at h
      refine gx_iload C hl dX4_signedRow_22 rfl ?_
      refine gx_bipush C dX4_signedRow_24 (by decide) ?_
      refine gx_icmp_ge (tgt := 53) C ry5 (show rng 16 by decide) dX4_signedRow_26 (by decide) (fun c1 => ?_) (fun c1 => ?_)
      · have h := h.1 c1
        refine gx_aload_n C hl dX4_signedRow_53 rfl ?_
        exact gx_aretA C G hag hex hret (Or.inr ⟨_, rfl⟩) vy3 h dX4_signedRow_54 ⟨Nat.le_of_ble_eq_true rfl, Nat.le_of_ble_eq_true rfl⟩
      · have h := h.2 c1
        refine gx_aload_n C hl dX4_signedRow_29 rfl ?_
        refine gx_iload C hl dX4_signedRow_30 rfl ?_
        refine gx_aload_n C hl dX4_signedRow_32 rfl ?_
        refine gx_getF C G rfl (fX4_o hV) (fo3_0 (fX4_c hV)) (fX4_octets hV) uw_133 (fun _ h9 => h9) dX4_signedRow_33 ?_
        refine gx_iload C hl dX4_signedRow_36 rfl ?_
        refine gx_iload C hl dX4_signedRow_38 rfl ?_
        obtain ⟨h2, h⟩ := h
        refine gx_iadd C dX4_signedRow_40 ?_
        obtain ⟨h3, h⟩ := h
        refine gx_iald C G rfl (fX4_octets_l hV) (fX4_octets_t hV) h2 h3.1 (ixl (fX4_octets_n hV) h3.2) dX4_signedRow_41 ?_
        have r4 := G.r (o + 1) (Int.toNat (y4 + y5))
        refine gx_sipush C dX4_signedRow_42 (by decide) ?_
        obtain ⟨h5, h⟩ := h
        refine gx_isub C dX4_signedRow_45 ?_
        obtain ⟨z6, hz6, tz6, h⟩ := h
        have lz6 := (vy3 z6 hz6)
        obtain ⟨h7, h⟩ := h
        refine gx_iast C G hz6 lz6 tz6 ry5 h5 h7.1 h7.2 dX4_signedRow_46 (fun H locs G => ?_)
        obtain ⟨S8, eS8⟩ : ∃ q9 : Me, q9 = sI S z6 (Int.toNat y5) ((S.1 (o + 1) (Int.toNat (y4 + y5))) - 128) := ⟨_, rfl⟩
        have h := h S8 eS8
        rw [← eS8] at G
        obtain ⟨h9, h⟩ := h
        refine gx_iinc C hl dX4_signedRow_47 rfl (PL' := [some (.inr (some o)), some (.inl x1), some (.inl x2), some (.inr y3), some (.inl y4), some (.inl (y5 + 1))]) rfl (fun ls hl => ?_)
        refine gx_goto (tgt := 22) C dX4_signedRow_50 (by decide) ?_
        exact ih y3 y4 (y5 + 1) S8 H locs ls vy3 ry4 h9 hl G h
  refine gx_astore_n C hl dX4_signedRow_4 (Nat.le_of_ble_eq_true rfl) (PL' := [some (.inr (some o)), some (.inl x1), some (.inl x2), some (.inr (some U10.1)), none, none]) rfl (fun ls hl => ?_)
  refine gx_iload_n C hl dX4_signedRow_5 rfl ?_
  refine gx_iconst C dX4_signedRow_6 ?_
  obtain ⟨h12, h⟩ := h
  refine gx_imul C dX4_signedRow_7 ?_
  refine gx_iload_n C hl dX4_signedRow_8 rfl ?_
  refine gx_iload_n C hl dX4_signedRow_9 rfl ?_
  refine gx_iconst C dX4_signedRow_10 ?_
  refine gx_irem C rx2 (show rng 4 by decide) (by decide) dX4_signedRow_11 ?_
  refine gx_ixor C dX4_signedRow_12 ?_
  obtain ⟨h13, h⟩ := h
  refine gx_iadd C dX4_signedRow_13 ?_
  refine gx_bipush C dX4_signedRow_14 (by decide) ?_
  obtain ⟨h14, h⟩ := h
  refine gx_imul C dX4_signedRow_16 ?_
  refine gx_istore C hl dX4_signedRow_17 (Nat.le_of_ble_eq_true rfl) (PL' := [some (.inr (some o)), some (.inl x1), some (.inl x2), some (.inr (some U10.1)), some (.inl (((x2 * 4) + (bXor x1 (Int.tmod x2 4))) * 16)), none]) rfl (fun ls hl => ?_)
  refine gx_iconst C dX4_signedRow_19 ?_
  refine gx_istore C hl dX4_signedRow_20 (Nat.le_of_ble_eq_true rfl) (PL' := [some (.inr (some o)), some (.inl x1), some (.inl x2), some (.inr (some U10.1)), some (.inl (((x2 * 4) + (bXor x1 (Int.tmod x2 4))) * 16)), some (.inl 0)]) rfl (fun ls hl => ?_)
  obtain ⟨n9, h⟩ := h
  exact b22 n9 (some U10.1) (((x2 * 4) + (bXor x1 (Int.tmod x2 4))) * 16) 0 S11 H locs ls (vsome nlU10) h14 (show rng 0 by decide) hl G h
def PT_X11_keepBytes (V : Vt) (o : Nat) (x1 : Option Nat) (x2 : Int) (S : Me) (Q : Int → Vt → Me → Prop) : Prop := PT_X11_isWithin V x2 0 63 S (fun t2 S1 => ((¬ t2 = 0 → PT_X4_signedRow V (o + 25) (Int.tdiv x2 16) (Int.tmod x2 16) S1 (fun t5 V S4 => ∃ z11 : Nat, x1 = some z11 ∧ V.2.1 z11 = 7 ∧ PT_X8_hold V z11 none t5 1 S4 (fun S10 => Q 0 V S10))) ∧ (t2 = 0 → Q (-1) V S1)))
theorem hd_X11_keepBytes : yX11_keepBytes.cls ≠ "java/lang/invoke/MethodHandle" ∧ yX11_keepBytes.cls ≠ "java/lang/invoke/VarHandle" ∧ (parseMethodDescriptor yX11_keepBytes.desc).map (fun d => d.parameters.length) = some 2 := by decide +kernel
set_option maxHeartbeats 4000000 in
set_option maxRecDepth 100000 in
theorem c_X11_keepBytes (l : Launch) (D : va_G) (cy : ClassId × ClassId × ClassId × ClassId) (ad : Nat → Nat) {V : Vt} {S : Me} {o : Nat} {x1 : Option Nat} {x2 : Int} (hV : fX11 V o) (vx1 : ∀ z, x1 = some z → z < V.1) (rx2 : rng x2) {Q : Int → Vt → Me → Prop} (h : PT_X11_keepBytes V o x1 x2 S Q) : KA l D cy yX11_keepBytes cX11_keepBytes 3 (Option.some Jvm.ClassFile.FieldType.int) 1 25 1 16 ad V S [.inr (some o), .inr x1, .inl x2] (aI Q) := by
  refine KA.of (by decide) rfl (Nat.le_of_ble_eq_true rfl) (own := RX11) (fun p e s m args below meth c A ls H locs eA C hret hml hmn hl G => ?_)
  have hl : lo ad ls [some (.inr (some o)), some (.inr x1), some (.inl x2)] := hl
  obtain ⟨ad0, ead0⟩ : ∃ q : Nat → Nat, q = ad := ⟨_, rfl⟩
  obtain ⟨V0, eV0⟩ : ∃ q : Vt, q = V := ⟨_, rfl⟩
  have hag : ∀ k, k < V0.1 → ad k = ad0 k := fun k _ => by rw [ead0]
  have hex : exV V0 V := by rw [eV0]; exact exV.rf V
  rw [← ead0, ← eV0]
  clear eV0 ead0
  clear eA
  unfold PT_X11_keepBytes at h
  refine gx_iload_n C hl dX11_keepBytes_0 rfl ?_
  refine gx_iconst C dX11_keepBytes_1 ?_
  refine gx_bipush C dX11_keepBytes_2 (by decide) ?_
  refine gx_callS C G hl hml (c_X11_isWithin l D cy ad rx2 (show rng 0 by decide) (show rng 63 by decide) h) uw_270 uw_268 uw_269 uw_1 hd_X11_isWithin ⟨Nat.le_of_ble_eq_true rfl, Nat.le_of_ble_eq_true rfl⟩ ⟨Nat.le_of_ble_eq_true rfl, Nat.le_of_ble_eq_true rfl⟩ rfl rfl (hw_le ad [] rfl (Nat.le_of_ble_eq_true rfl)) dX11_keepBytes_4 (kkI (fun t2 S1 H locs rt2 h G => ?_))
  refine gx_if_ne (tgt := 12) C rt2 dX11_keepBytes_7 (by decide) (fun c3 => ?_) (fun c3 => ?_)
  · have h := h.1 c3
    refine gx_aload_n C hl dX11_keepBytes_12 rfl ?_
    refine gx_null (ad := ad) C dX11_keepBytes_13 ?_
    refine gx_aload_n C hl dX11_keepBytes_14 rfl ?_
    refine gx_getF C G rfl (fX11_o hV) (fo10_3 (fX11_c hV)) (fX11_memory hV) uw_218 (fun _ h9 => h9) dX11_keepBytes_15 ?_
    refine gx_iload_n C hl dX11_keepBytes_18 rfl ?_
    refine gx_bipush C dX11_keepBytes_19 (by decide) ?_
    refine gx_idiv C rx2 (show rng 16 by decide) (by decide) dX11_keepBytes_21 ?_
    refine gx_iload_n C hl dX11_keepBytes_22 rfl ?_
    refine gx_bipush C dX11_keepBytes_23 (by decide) ?_
    refine gx_irem C rx2 (show rng 16 by decide) (by decide) dX11_keepBytes_25 ?_
    refine gx_callVA C G hl (okP_S (okv_R (vsome (fX11_o hV))) (okP_S (okv_R vx1) (okP_S (okv_I rx2) okP_0))) hml (c_X4_signedRow l D cy ad (fX11_memory_s hV) (rg_dv rx2 (by decide)) (rg_md rx2) h) rfl (fX4_o (fX11_memory_s hV)) (by rw [(fX4_c (fX11_memory_s hV))]; rfl) (by rw [(fX4_c (fX11_memory_s hV))]; decide) rfl uw_763 uw_760 uw_761 uw_762 uw_5 hd_X4_signedRow ⟨Nat.le_of_ble_eq_true rfl, Nat.le_of_ble_eq_true rfl⟩ ⟨Nat.le_of_ble_eq_true rfl, Nat.le_of_ble_eq_true rfl⟩ rfl [.inr none, .inr x1] (okS_S (okv_R vnone) (okS_S (okv_R vx1) okS_0)) rfl (Nat.le_of_ble_eq_true rfl) dX11_keepBytes_26 (kaR (fun t5 ad V S4 H locs vt5 h hag1 hex1 hl G => ?_))
    have v6 := hex1.vl (vsome (fX11_o hV))
    have l7 := hex1.lt (fX11_o hV)
    have s8 := fX11_x hex1 hV
    have v9 := hex1.vl vx1
    have hag := fun k hk => (hag1 k (hex.lt hk)).trans (hag k hk)
    have hex := hex.tr hex1
    refine gx_iconst C dX11_keepBytes_29 ?_
    obtain ⟨z11, hz11, tz11, h⟩ := h
    have lz11 := (v9 z11 hz11)
    refine gx_callV C G hl hml (c_X8_hold l D cy ad lz11 tz11 vnone vt5 (show rng 1 by decide) h) hz11 lz11 (by rw [tz11]; rfl) (by rw [tz11]; decide) rfl uw_752 uw_749 uw_750 uw_751 uw_8 hd_X8_hold ⟨Nat.le_of_ble_eq_true rfl, Nat.le_of_ble_eq_true rfl⟩ ⟨Nat.le_of_ble_eq_true rfl, Nat.le_of_ble_eq_true rfl⟩ rfl rfl (hw_le ad [] rfl (Nat.le_of_ble_eq_true rfl)) dX11_keepBytes_30 (kkV (fun S10 H locs h G => ?_))
    refine gx_iconst C dX11_keepBytes_33 ?_
    exact gx_iretA C G hag hex hret (show rng 0 by decide) h dX11_keepBytes_34 ⟨Nat.le_of_ble_eq_true rfl, Nat.le_of_ble_eq_true rfl⟩
  · have h := h.2 c3
    refine gx_iconst C dX11_keepBytes_10 ?_
    exact gx_iretA C G hag hex hret (show rng (-1) by decide) h dX11_keepBytes_11 ⟨Nat.le_of_ble_eq_true rfl, Nat.le_of_ble_eq_true rfl⟩
def PT_X11_keep (V : Vt) (o : Nat) (x1 : Int) (x2 : Int) (x3 : Int) (S : Me) (Q : Int → Vt → Me → Prop) : Prop := PT_X11_findShelf V o x1 S (fun t2 S1 => ((¬ t2 = none → ((x2 = 0 → ∃ z5 : Nat, t2 = some z5 ∧ V.2.1 z5 = 7 ∧ PT_X8_hold V z5 none none 0 S1 (fun S4 => Q 0 V S4)) ∧ (x2 = 1 → PT_X7_find V (o + 28) x3 S1 (fun t8 S7 => PT_X11_keepAsk V t2 t8 S7 (fun t10 S9 => Q t10 V S9))) ∧ (x2 = 2 → Q (-1) V S1) ∧ (x2 = 3 → PT_X11_keepBytes V o t2 x3 S1 (fun t14 V S13 => Q t14 V S13)) ∧ (x2 = 4 → (13 = (V.2.2.1 (o + 1) : Int)) ∧ ∀ U20 : Vt, U20 = V → ∀ V : Vt, V = nV U20 12 (U20.2.2.1 (o + 1)) → ∀ S21 : Me, S21 = iS U20 S1 (S1.1 (o + 1)) → ∃ z29 : Nat, t2 = some z29 ∧ V.2.1 z29 = 7 ∧ PT_X8_hold V z29 none (some U20.1) 0 S21 (fun S28 => Q 0 V S28)) ∧ ((x2 < 0 ∨ 4 < x2) → Q (-1) V S1))) ∧ (t2 = none → Q (-1) V S1)))
theorem hd_X11_keep : yX11_keep.cls ≠ "java/lang/invoke/MethodHandle" ∧ yX11_keep.cls ≠ "java/lang/invoke/VarHandle" ∧ (parseMethodDescriptor yX11_keep.desc).map (fun d => d.parameters.length) = some 3 := by decide +kernel
set_option maxHeartbeats 4000000 in
set_option maxRecDepth 100000 in
theorem c_X11_keep (l : Launch) (D : va_G) (cy : ClassId × ClassId × ClassId × ClassId) (ad : Nat → Nat) {V : Vt} {S : Me} {o : Nat} {x1 : Int} {x2 : Int} {x3 : Int} (hV : fX11 V o) (rx1 : rng x1) (rx2 : rng x2) (rx3 : rng x3) {Q : Int → Vt → Me → Prop} (h : PT_X11_keep V o x1 x2 x3 S Q) : KA l D cy yX11_keep cX11_keep 5 (Option.some Jvm.ClassFile.FieldType.int) 2 47 1 16 ad V S [.inr (some o), .inl x1, .inl x2, .inl x3] (aI Q) := by
  refine KA.of (by decide) rfl (Nat.le_of_ble_eq_true rfl) (own := RX11) (fun p e s m args below meth c A ls H locs eA C hret hml hmn hl G => ?_)
  have hl : lo ad ls [some (.inr (some o)), some (.inl x1), some (.inl x2), some (.inl x3), none] := hl
  obtain ⟨ad0, ead0⟩ : ∃ q : Nat → Nat, q = ad := ⟨_, rfl⟩
  obtain ⟨V0, eV0⟩ : ∃ q : Vt, q = V := ⟨_, rfl⟩
  have hag : ∀ k, k < V0.1 → ad k = ad0 k := fun k _ => by rw [ead0]
  have hex : exV V0 V := by rw [eV0]; exact exV.rf V
  rw [← ead0, ← eV0]
  clear eV0 ead0
  clear eA
  unfold PT_X11_keep at h
  refine gx_aload_n C hl dX11_keep_0 rfl ?_
  refine gx_iload_n C hl dX11_keep_1 rfl ?_
  refine gx_callV C G hl hml (c_X11_findShelf l D cy ad hV rx1 h) rfl (fX11_o hV) (by rw [(fX11_c hV)]; rfl) (by rw [(fX11_c hV)]; decide) rfl uw_748 uw_745 uw_747 up_13 uw_1 hd_X11_findShelf ⟨Nat.le_of_ble_eq_true rfl, Nat.le_of_ble_eq_true rfl⟩ ⟨Nat.le_of_ble_eq_true rfl, Nat.le_of_ble_eq_true rfl⟩ rfl rfl (hw_le ad [] rfl (Nat.le_of_ble_eq_true rfl)) dX11_keep_2 (kkR (fun t2 S1 H locs vt2 h G => ?_))
  refine gx_astore C hl dX11_keep_5 (Nat.le_of_ble_eq_true rfl) (PL' := [some (.inr (some o)), some (.inl x1), some (.inl x2), some (.inl x3), some (.inr t2)]) rfl (fun ls hl => ?_)
  refine gx_aload C hl dX11_keep_7 rfl ?_
  refine gx_ifnonnull (tgt := 14) C dX11_keep_9 (by decide) (fun c3 => ?_) (fun c3 => ?_)
  · have h := h.1 c3
    refine gx_iload_n C hl dX11_keep_14 rfl ?_
    by_cases c6 : x2 = 0
    · refine gx_tableIn (tgt := 48) C rx2 dX11_keep_15 0 c6 (by decide) (by decide) rfl (by decide) ?_
      have h := h.1 c6
      refine gx_aload C hl dX11_keep_48 rfl ?_
      refine gx_null (ad := ad) C dX11_keep_50 ?_
      refine gx_null (ad := ad) C dX11_keep_51 ?_
      refine gx_iconst C dX11_keep_52 ?_
      obtain ⟨z5, hz5, tz5, h⟩ := h
      have lz5 := (vt2 z5 hz5)
      refine gx_callV C G hl hml (c_X8_hold l D cy ad lz5 tz5 vnone vnone (show rng 0 by decide) h) hz5 lz5 (by rw [tz5]; rfl) (by rw [tz5]; decide) rfl uw_752 uw_749 uw_750 uw_751 uw_8 hd_X8_hold ⟨Nat.le_of_ble_eq_true rfl, Nat.le_of_ble_eq_true rfl⟩ ⟨Nat.le_of_ble_eq_true rfl, Nat.le_of_ble_eq_true rfl⟩ rfl rfl (hw_le ad [] rfl (Nat.le_of_ble_eq_true rfl)) dX11_keep_53 (kkV (fun S4 H locs h G => ?_))
      refine gx_iconst C dX11_keep_56 ?_
      exact gx_iretA C G hag hex hret (show rng 0 by decide) h dX11_keep_57 ⟨Nat.le_of_ble_eq_true rfl, Nat.le_of_ble_eq_true rfl⟩
    · by_cases c11 : x2 = 1
      · refine gx_tableIn (tgt := 58) C rx2 dX11_keep_15 1 c11 (by decide) (by decide) rfl (by decide) ?_
        have h := h.2.1 c11
        refine gx_aload C hl dX11_keep_58 rfl ?_
        refine gx_aload_n C hl dX11_keep_60 rfl ?_
        refine gx_getF C G rfl (fX11_o hV) (fo10_4 (fX11_c hV)) (fX11_queue hV) uw_219 (fun _ h9 => h9) dX11_keep_61 ?_
        refine gx_iload_n C hl dX11_keep_64 rfl ?_
        refine gx_callV C G hl hml (c_X7_find l D cy ad (fX11_queue_s hV) rx3 h) rfl (fX7_o (fX11_queue_s hV)) (by rw [(fX7_c (fX11_queue_s hV))]; rfl) (by rw [(fX7_c (fX11_queue_s hV))]; decide) rfl uw_669 uw_666 uw_667 uw_668 uw_6 hd_X7_find ⟨Nat.le_of_ble_eq_true rfl, Nat.le_of_ble_eq_true rfl⟩ ⟨Nat.le_of_ble_eq_true rfl, Nat.le_of_ble_eq_true rfl⟩ rfl rfl (hw_le ad [.inr t2] rfl (Nat.le_of_ble_eq_true rfl)) dX11_keep_65 (kkR (fun t8 S7 H locs vt8 h G => ?_))
        refine gx_callS C G hl hml (c_X11_keepAsk l D cy ad vt2 vt8 h) uw_755 uw_753 uw_754 uw_1 hd_X11_keepAsk ⟨Nat.le_of_ble_eq_true rfl, Nat.le_of_ble_eq_true rfl⟩ ⟨Nat.le_of_ble_eq_true rfl, Nat.le_of_ble_eq_true rfl⟩ rfl rfl (hw_le ad [] rfl (Nat.le_of_ble_eq_true rfl)) dX11_keep_68 (kkI (fun t10 S9 H locs rt10 h G => ?_))
        exact gx_iretA C G hag hex hret rt10 h dX11_keep_71 ⟨Nat.le_of_ble_eq_true rfl, Nat.le_of_ble_eq_true rfl⟩
      · by_cases c12 : x2 = 2
        · refine gx_tableIn (tgt := 98) C rx2 dX11_keep_15 2 c12 (by decide) (by decide) rfl (by decide) ?_
          have h := h.2.2.1 c12
          refine gx_iconst C dX11_keep_98 ?_
          exact gx_iretA C G hag hex hret (show rng (-1) by decide) h dX11_keep_99 ⟨Nat.le_of_ble_eq_true rfl, Nat.le_of_ble_eq_true rfl⟩
        · by_cases c19 : x2 = 3
          · refine gx_tableIn (tgt := 72) C rx2 dX11_keep_15 3 c19 (by decide) (by decide) rfl (by decide) ?_
            have h := h.2.2.2.1 c19
            refine gx_aload_n C hl dX11_keep_72 rfl ?_
            refine gx_aload C hl dX11_keep_73 rfl ?_
            refine gx_iload_n C hl dX11_keep_75 rfl ?_
            refine gx_callVA C G hl (okP_S (okv_R (vsome (fX11_o hV))) (okP_S (okv_I rx1) (okP_S (okv_I rx2) (okP_S (okv_I rx3) (okP_S (okv_R vt2) okP_0))))) hml (c_X11_keepBytes l D cy ad hV vt2 rx3 h) rfl (fX11_o hV) (by rw [(fX11_c hV)]; rfl) (by rw [(fX11_c hV)]; decide) rfl uw_759 uw_756 uw_758 up_14 uw_1 hd_X11_keepBytes ⟨Nat.le_of_ble_eq_true rfl, Nat.le_of_ble_eq_true rfl⟩ ⟨Nat.le_of_ble_eq_true rfl, Nat.le_of_ble_eq_true rfl⟩ rfl [] okS_0 rfl (Nat.le_of_ble_eq_true rfl) dX11_keep_76 (kaI (fun t14 ad V S13 H locs rt14 h hag1 hex1 hl G => ?_))
            have v15 := hex1.vl (vsome (fX11_o hV))
            have l16 := hex1.lt (fX11_o hV)
            have s17 := fX11_x hex1 hV
            have v18 := hex1.vl vt2
            have hag := fun k hk => (hag1 k (hex.lt hk)).trans (hag k hk)
            have hex := hex.tr hex1
            exact gx_iretA C G hag hex hret rt14 h dX11_keep_79 ⟨Nat.le_of_ble_eq_true rfl, Nat.le_of_ble_eq_true rfl⟩
          · by_cases c30 : x2 = 4
            · refine gx_tableIn (tgt := 80) C rx2 dX11_keep_15 4 c30 (by decide) (by decide) rfl (by decide) ?_
              have h := h.2.2.2.2.1 c30
              refine gx_aload C hl dX11_keep_80 rfl ?_
              refine gx_null (ad := ad) C dX11_keep_82 ?_
              refine gx_aload_n C hl dX11_keep_83 rfl ?_
              refine gx_getF C G rfl (fX11_o hV) (fo10_0 (fX11_c hV)) (fX11_times hV) uw_215 (fun _ h9 => h9) dX11_keep_84 ?_
              refine gx_bipush C dX11_keep_87 (by decide) ?_
              obtain ⟨h23, h⟩ := h
              obtain ⟨U20, rfl⟩ : ∃ q : Vt, q = V := ⟨_, rfl⟩
              have h := h U20 rfl
              refine gx_callSA C G hl (okP_S (okv_R (vsome (fX11_o hV))) (okP_S (okv_I rx1) (okP_S (okv_I rx2) (okP_S (okv_I rx3) (okP_S (okv_R vt2) okP_0))))) hml (c_J7_copyOf_59c91 l D cy ad (fX11_times_l hV) (fX11_times_t hV) (show rng 13 by decide) h23 (by rw [(fX11_times_n hV)]; exact Nat.le_of_ble_eq_true rfl) (Q := fun r9 V9 S9 => r9 = some U20.1 ∧ V9 = nV U20 12 (U20.2.2.1 (o + 1)) ∧ S9 = iS U20 S1 (S1.1 (o + 1))) ⟨rfl, rfl, rfl⟩) uw_766 uw_764 uw_765 uw_3 hd_J7_copyOf_59c91 ⟨Nat.le_of_ble_eq_true rfl, Nat.le_of_ble_eq_true rfl⟩ ⟨Nat.le_of_ble_eq_true rfl, Nat.le_of_ble_eq_true rfl⟩ rfl [.inr none, .inr t2] (okS_S (okv_R vnone) (okS_S (okv_R vt2) okS_0)) rfl (Nat.le_of_ble_eq_true rfl) dX11_keep_89 (kaR (fun t22 ad V S21 H locs vt22 h9 hag1 hex1 hl G => ?_))
              obtain ⟨rfl, eV, eS⟩ := h9
              have h := h V eV S21 eS
              have nlU20 : U20.1 < V.1 := by rw [eV]; exact Nat.lt_succ_self _
              have ntU20 : V.2.1 U20.1 = 12 := by rw [eV]; simp [nV]
              have v24 := hex1.vl (vsome (fX11_o hV))
              have l25 := hex1.lt (fX11_o hV)
              have s26 := fX11_x hex1 hV
              have v27 := hex1.vl vt2
              have hag := fun k hk => (hag1 k (hex.lt hk)).trans (hag k hk)
              have hex := hex.tr hex1
              refine gx_iconst C dX11_keep_92 ?_
              obtain ⟨z29, hz29, tz29, h⟩ := h
              have lz29 := (v27 z29 hz29)
              refine gx_callV C G hl hml (c_X8_hold l D cy ad lz29 tz29 vnone (vsome nlU20) (show rng 0 by decide) h) hz29 lz29 (by rw [tz29]; rfl) (by rw [tz29]; decide) rfl uw_752 uw_749 uw_750 uw_751 uw_8 hd_X8_hold ⟨Nat.le_of_ble_eq_true rfl, Nat.le_of_ble_eq_true rfl⟩ ⟨Nat.le_of_ble_eq_true rfl, Nat.le_of_ble_eq_true rfl⟩ rfl rfl (hw_le ad [] rfl (Nat.le_of_ble_eq_true rfl)) dX11_keep_93 (kkV (fun S28 H locs h G => ?_))
              refine gx_iconst C dX11_keep_96 ?_
              exact gx_iretA C G hag hex hret (show rng 0 by decide) h dX11_keep_97 ⟨Nat.le_of_ble_eq_true rfl, Nat.le_of_ble_eq_true rfl⟩
            · have c31 : x2 < 0 ∨ 4 < x2 := by omega
              refine gx_tableOut (tgt := 98) C rx2 dX11_keep_15 c31 (by decide) ?_
              have h := h.2.2.2.2.2 c31
              refine gx_iconst C dX11_keep_98 ?_
              exact gx_iretA C G hag hex hret (show rng (-1) by decide) h dX11_keep_99 ⟨Nat.le_of_ble_eq_true rfl, Nat.le_of_ble_eq_true rfl⟩
  · have h := h.2 c3
    refine gx_iconst C dX11_keep_12 ?_
    exact gx_iretA C G hag hex hret (show rng (-1) by decide) h dX11_keep_13 ⟨Nat.le_of_ble_eq_true rfl, Nat.le_of_ble_eq_true rfl⟩
