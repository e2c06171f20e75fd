/-! ===== longs: the reference's element, the law's row of one long ===== -/
section GLg
variable {p : Program} {l : Launch} {e : Env} {R : Room} {s : State} {m : MethodId} {args : Array Value} {below : List Frame} {meth : Method} {c : Code} {H : Heap} {locs : List Loc} {cells slots : Nat} {Q : State → Prop} {cc : ByteArray} {pc : Nat} {ls : Array Slot} {rest : List Value} {D : va_G} {cy : ClassId × ClassId × ClassId × ClassId} {A : Nat → Prop} {ad : Nat → Nat} {V : Vt} {S : Me} {own : String} {PL : List (Option (Int ⊕ Option Nat))}
theorem wo_l {z : Nat} (hzl : z < V.1) (ht : V.2.1 z = 15) : (wo cy ad V S)[z]? = some (ad z, .inl (cy.2.2.2, V.2.2.1 z, .inr (.inl (fun j => Int64.ofInt (S.1 z j))))) := by rw [wo_at hzl, cf_l ht]
theorem gx_lald (C : Cx p s m args meth c cc own D cy A) (G : Gy D cy A s.heap ad V S H locs) {r : Option Nat} {z : Nat} (hz : r = some z) (hzl : z < V.1) (ht : V.2.1 z = 15) {i : Int} (ri : rng i) (h0 : 0 ≤ i) (h1 : i < (V.2.2.1 z : Int)) (hdg : decode cc pc = .ok (.laload, 1)) (kk : W p l e R s m args below meth c H locs cells slots Q (F0 m (pc + 1) ls (vL (S.1 z i.toNat) :: rest))) : W p l e R s m args below meth c H locs cells slots Q (F0 m pc ls (vI i :: vR ad r :: rest)) := by
  subst hz
  exact va_lald C.1 C.2.1 C.2.2.2.2.1.1 G.1.1 z 3 (wo_l hzl ht) rfl (rg_in ri h0 h1) hdg (by rw [rg_cl ri]; exact kk)
theorem gx_last (C : Cx p s m args meth c cc own D cy A) (G : Gy D cy A s.heap ad V S H locs) {r : Option Nat} {z : Nat} (hz : r = some z) (hzl : z < V.1) (ht : V.2.1 z = 15) {i x : Int} (ri : rng i) (rx : rng x) (h0 : 0 ≤ i) (h1 : i < (V.2.2.1 z : Int)) (hdg : decode cc pc = .ok (.lastore, 1)) (kk : ∀ (H1 : Heap) (locs1 : List Loc), Gy D cy A s.heap ad V (sI S z i.toNat x) H1 locs1 → W p l e R s m args below meth c H1 locs1 cells slots Q (F0 m (pc + 1) ls rest)) : W p l e R s m args below meth c H locs cells slots Q (F0 m pc ls (vL x :: vI i :: vR ad r :: rest)) := by
  subst hz
  refine va_last C.1 C.2.1 C.2.2.2.2.1.1 G.1.1 G.D G.2.2 z 3 (wo_l hzl ht) rfl (rg_in ri h0 h1) hdg (fun H1 locs1 hP _ hS => ?_)
  rw [rg_cl ri, wo_sI (j := i.toNat) (x := x) hzl (by
    rw [cf_l ht]
    congr 3
    refine congrArg (fun f => Sum.inr (Sum.inl f)) (funext fun j => ?_)
    by_cases hj : j = i.toNat
    · subst hj; simp [vp_updL]
    · simp [vp_updL, hj])] at hP
  exact kk H1 locs1 ⟨Gx_sI rx hP G.1, G.2.1, hS⟩
theorem cL_eq {cA : ClassId} (h1 : va_K D vwCl (tyl cy) s) (h2 : va_K D vwCl (tyl cy ++ [(cA, .long)]) s) : cA = cy.2.2.2 := Option.some.inj (((h2.2 4 (cA, .long) rfl).2).symm.trans (h1.2 3 (cy.2.2.2, .long) rfl).2)
/-- THE CONTRACT of a method that answers a long -/
def qmL (below : List Frame) (D : va_G) (cy : ClassId × ClassId × ClassId × ClassId) (ad : Nat → Nat) (V : Vt) (A : Nat → Prop) (args : Array Value) (s : State) (Qi : Int → Me → Prop) : State → Prop := MQ below (fun _ st oc t => (∃ (x : Int) (S' : Me), oc = .returned (some (vL x)) ∧ rng x ∧ Qi x S' ∧ Gx D cy ad V S' t.heap) ∧ va_F A st t) args s 0 0 A
def KL (l : Launch) (D : va_G) (cy : ClassId × ClassId × ClassId × ClassId) (y : MethodName) (cc : ByteArray) (n : Nat) (fr lc : Nat) (ad : Nat → Nat) (V : Vt) (S : Me) (vs : List (Int ⊕ Option Nat)) (Qi : Int → Me → Prop) : Prop :=
  ∀ sz : Nat, Met l y (.code y cc n (some .long) :: UW) ({ frames := fr, cells := 0, slots := 0, locals := lc }) (va_Pc (vs.map (vS ad)) (fun U => U.heap.size = sz ∧ Gx D cy ad V S U.heap ∧ Kx D cy U)) (fun _ st oc t => (∃ (x : Int) (S' : Me), oc = .returned (some (vL x)) ∧ rng x ∧ Qi x S' ∧ Gx D cy ad V S' t.heap) ∧ va_F (RA ad V.1 sz) st t) 0 0 (RA ad V.1 sz)
theorem KL.of {y : MethodName} {cc : ByteArray} {n fr lc : Nat} {vs : List (Int ⊕ Option Nat)} {Qi : Int → Me → Prop} {own : String} (hy : plainName y.cls = true) (ho : y.cls = own) (hvl : vs.length ≤ n)
    (body : ∀ (p : Program) (e : Env) (s : State) (m : MethodId) (args : Array Value) (below : List Frame) (meth : Method) (c : Code) (A : Nat → Prop) (ls : Array Slot) (H : Heap) (locs : List Loc), A = RA ad V.1 s.heap.size → Cx p s m args meth c cc own D cy A → meth.sig.returnType = some .long → c.maxLocals = n → meth.name = y.name → lo ad ls (vs.map some ++ List.replicate (n - vs.length) none) → Gy D cy A s.heap ad V S H locs →
      W p l e (rmx fr lc) s m args below meth c H locs 0 0 (qmL below D cy ad V A args s Qi) (F0 m 0 ls [])) : KL l D cy y cc n fr lc ad V S vs Qi := by
  intro sz
  refine Met.ofW (cc := cc) (maxL := n) (ret := some .long) hy rfl ?_
  intro p e s m args below meth c s₁ B hml hv
  obtain ⟨rfl, hsz, hG, hK⟩ := hv
  subst hsz
  have hts := atoms_spec (ws := (.code y cc n (some .long) :: UW)) B.pre
  have hown : s.vm.findClass own = some m.cls := by rw [← ho]; exact findClass_of_methodNamed B.named
  have hl := lo_entry ad vs n hvl
  rw [lg_entry_eq]
  generalize (lg_sl (vs.map (vS ad)) ++ List.replicate (n - (lg_sl (vs.map (vS ad))).length) Slot.unset).toArray = ls at hl ⊢
  exact body p e s m _ below meth c _ ls s.heap [] rfl ⟨B.exec, B.bytes, hown, fun w hw => hts w (List.mem_cons_of_mem _ hw), hK, fun q h => Or.inr h, B.notSynchronized⟩ B.returns hml (name_of_methodNamed B.named B.method).1 hl ⟨hG, fun k hk => Or.inl ⟨k, hk, rfl⟩, va_S.rf⟩
theorem gx_lret (C : Cx p s m args meth c cc own D cy A) (G : Gy D cy A s.heap ad V S H locs) {x : Int} {Qi : Int → Me → Prop} (hr : meth.sig.returnType = some .long) (rx : rng x) (h : Qi x S) (hdg : decode cc pc = .ok (.lreturn, 1)) : W p l e R s m args below meth c H locs 0 0 (qmL below D cy ad V A args s Qi) (F0 m pc ls [vL x]) :=
  W.lret C.1 C.2.1 hr (fun t ht _ => ⟨⟨x, S, rfl, rx, h, by rw [ht]; exact G.1⟩, G.2.2.F ht⟩) G.2.2.2.2 hdg C.2.2.2.2.2.2
/-- invokevirtual of such a method -/
theorem gx_callVL (C : Cx p s m args meth c cc own D cy A) (G : Gy D cy A s.heap ad V S H locs) (hml : c.maxLocals = ls.size) {y : MethodName} {bc : ByteArray} {n fr lc na index : Nat} {vs : List (Int ⊕ Option Nat)} {Qi : Int → Me → Prop} {r : Option Nat} {z : Nat}
    (hK : KL l D cy y bc n fr lc ad V S (.inr (some z) :: vs) Qi) (hz : r = some z) (hzl : z < V.1) {q9 : vw_C} (hc : vwCl[V.2.1 z]? = some q9) (ht : V.2.1 z < 12) (hy : y.cls = q9.1)
    (hcode : Cond.code y bc n (some .long) ∈ UW) (hlink : Cond.methodLink own index y ∈ UW) (hinst : Cond.instanceMethod y ∈ UW) (hsel : Cond.selects q9.1 y y ∈ UW) (hini : Cond.initialized q9.1 ∈ UW)
    (hd : y.cls ≠ "java/lang/invoke/MethodHandle" ∧ y.cls ≠ "java/lang/invoke/VarHandle" ∧ (parseMethodDescriptor y.desc).map (fun d => d.parameters.length) = some na) (hR : fr + 1 ≤ R.frames ∧ 8 + (n + 11) + lc ≤ R.locals) (hRc : cells ≤ R.cells ∧ slots ≤ R.slots)
    (hn : vs.length = na) {st0 : List Value} (hst : st0 = (vs.map (vS ad)).reverse ++ vR ad r :: rest) (hW : (rest.map fun v => v.category).sum ≤ 8) (hdg : decode cc pc = .ok (.invokevirtual index, 3))
    (kk : ∀ (x : Int) (S' : Me) (H1 : Heap) (locs1 : List Loc), rng x → Qi x S' → Gy D cy A s.heap ad V S' H1 locs1 → W p l e R s m args below meth c H1 locs1 cells slots Q (F0 m (pc + 3) ls (vL x :: rest))) : W p l e R s m args below meth c H locs cells slots Q (F0 m pc ls st0) := by
  subst hz
  have hts := C.2.2.2.1
  have hfree : ∀ q, RA ad V.1 H.size q → A q := by
    intro q hq
    rcases hq with ⟨k, hk, rfl⟩ | hq
    · exact G.2.1 k hk
    · exact C.2.2.2.2.2.1 q (Nat.le_trans G.2.2.1 hq)
  have hr : va_Run p l e R s m args below meth c H locs cells slots 0 0 (F0 m pc ls st0) rest _ _ := va_runV (C := q9.1) (b := ad z) (As := vs.map (vS ad)) (rest := rest) (Ts := UW) (own := own) (nL := ls.size) ⟨C.1, C.2.1, hml, C.2.2.1, hts⟩ (hK H.size) ⟨callB_of (ws' := UW) na hts (uw_in hcode) rfl rfl rfl (by rw [hy]; exact hts _ hini) (hts _ hlink) hd hR, hts _ hinst, hts _ hsel⟩ ⟨KM.blind (y := y) (cc := bc), va_recv C.2.2.2.2.1.1 G.1.1 hc (wo_o hzl ht), fun U hU hW => ⟨rfl, by rw [hU], by rw [hU]; exact G.1, Kx.warm hW C.2.2.2.2.1⟩⟩ rfl (by rw [List.length_map]; exact hn) rfl hst (lv_room hW) hdg ⟨hRc.1, hRc.2⟩
  intro T hT X
  obtain ⟨v, st₀, t, T', L, h0, X', hL, e1, e2, ⟨⟨x, S', hv, hrx, hq, hg⟩, hz, hk⟩, st⟩ := hr T hT X
  cases hv
  rw [h0] at hz hk
  obtain ⟨t2, a1, b1⟩ := kk x S' T'.heap (locs ++ L) hrx hq ⟨by rw [e1]; exact hg, G.2.1, Nat.le_trans G.2.2.1 (by rw [e1]; exact hz), fun q h1 h2 => by rw [e1, hk q (Nat.lt_of_lt_of_le h1 G.2.2.1) (fun z => h2 (hfree q z))]; exact G.2.2.2.1 q h1 h2, fun q hq => by
      rcases List.mem_append.mp hq with h | h
      · exact G.2.2.2.2 q h
      · exact hfree _ (hL q h)⟩ T' rfl X'
  exact ⟨t2, st t2 a1, b1⟩
end GLg

def B_X12_element_62 (V : Vt) (o : Nat) (x1 : Int) (x2 : Int) (y3 : Int) (w0 : Option Nat) (w1 : Int) (S : Me) (Q : Int → Me → Prop) : Prop := ∃ z1 : Nat, w0 = some z1 ∧ fX12 V z1 ∧ ∀ S2 : Me, S2 = sI S z1 0 w1 → ((y3 = 0 → Q 0 S2) ∧ (¬ y3 = 0 → (rng (60 * x1)) ∧ (rng ((60 * x1) + x2)) ∧ (0 ≤ ((60 * x1) + x2) ∧ ((60 * x1) + x2) < 480) ∧ Q (S2.1 (o + 28) (Int.toNat ((60 * x1) + x2))) S2))
def B_X12_element_40 (V : Vt) (o : Nat) (x1 : Int) (x2 : Int) (w0 : Int) (S : Me) (Q : Int → Me → Prop) : Prop := PT_X12_isShelf V x1 S (fun t9 S8 => ((¬ t9 = 0 → ((w0 = 0 → B_X12_element_62 V o x1 x2 w0 (some o) 2 S8 Q) ∧ (¬ w0 = 0 → B_X12_element_62 V o x1 x2 w0 (some o) 0 S8 Q))) ∧ (t9 = 0 → B_X12_element_62 V o x1 x2 w0 (some o) 1 S8 Q)))
def B_X12_element_39 (V : Vt) (o : Nat) (x1 : Int) (x2 : Int) (S : Me) (Q : Int → Me → Prop) : Prop := B_X12_element_40 V o x1 x2 0 S Q
def PT_X12_element (V : Vt) (o : Nat) (x1 : Int) (x2 : Int) (S : Me) (Q : Int → Me → Prop) : Prop := PT_X12_isShelf V x1 S (fun t13 S12 => ((t13 = 0 → B_X12_element_39 V o x1 x2 S12 Q) ∧ (¬ t13 = 0 → (0 ≤ x1 ∧ x1 < 8) ∧ (((S12.1 (o + 25) (Int.toNat x1)) ≤ 2 → B_X12_element_39 V o x1 x2 S12 Q) ∧ (¬ (S12.1 (o + 25) (Int.toNat x1)) ≤ 2 → (0 ≤ x1 ∧ x1 < 8) ∧ (rng ((S12.1 (o + 26) (Int.toNat x1)) - 1)) ∧ (((isin x2 0 ((S12.1 (o + 26) (Int.toNat x1)) - 1)) = 0 → B_X12_element_39 V o x1 x2 S12 Q) ∧ (¬ (isin x2 0 ((S12.1 (o + 26) (Int.toNat x1)) - 1)) = 0 → B_X12_element_40 V o x1 x2 1 S12 Q)))))))
theorem hd_X12_element : yX12_element.cls ≠ "java/lang/invoke/MethodHandle" ∧ yX12_element.cls ≠ "java/lang/invoke/VarHandle" ∧ (parseMethodDescriptor yX12_element.desc).map (fun d => d.parameters.length) = some 2 := by decide +kernel
set_option maxHeartbeats 4000000 in
set_option maxRecDepth 100000 in
theorem c_X12_element (l : Launch) (D : va_G) (cy : ClassId × ClassId × ClassId × ClassId) (ad : Nat → Nat) {V : Vt} {S : Me} {o : Nat} {x1 : Int} {x2 : Int} (hV : fX12 V o) (rx1 : rng x1) (rx2 : rng x2) {Q : Int → Me → Prop} (h : PT_X12_element V o x1 x2 S Q) : KL l D cy yX12_element cX12_element 4 1 25 ad V S [.inr (some o), .inl x1, .inl x2] Q := by
  refine KL.of (by decide) rfl (Nat.le_of_ble_eq_true rfl) (own := RX12) (fun p e s m args below meth c A ls H locs eA C hret hml hmn hl G => ?_)
  have hl : lo ad ls [some (.inr (some o)), some (.inl x1), some (.inl x2), none] := hl
  have b62 : ∀ (y3 : Int) (w0 : Option Nat) (w1 : Int) (S : Me) (H : Heap) (locs : List Loc) (ls : Array Slot), rng y3 → (∀ z, w0 = some z → z < V.1) → rng w1 → lo ad ls [some (.inr (some o)), some (.inl x1), some (.inl x2), some (.inl y3)] → Gy D cy A s.heap ad V S H locs → B_X12_element_62 V o x1 x2 y3 w0 w1 S Q → W p l e (rmx 1 25) s m args below meth c H locs 0 0 (qmL below D cy ad V A args s Q) (F0 m 62 ls [vI w1, vR ad w0]) := by
    intro y3 w0 w1 S H locs ls ry3 vw0 rw1 hl G h
    unfold B_X12_element_62 at h
    obtain ⟨z1, hz1, tz1, h⟩ := h
    have lz1 := (vw0 z1 hz1)
    refine gx_putI C G hz1 lz1 (fo11_0 (fX12_c tz1)) rw1 uw_955 (fun _ h9 => h9) dX12_element_62 (fun H locs G => ?_)
    obtain ⟨S2, eS2⟩ : ∃ q9 : Me, q9 = sI S z1 0 w1 := ⟨_, rfl⟩
    have h := h S2 eS2
    rw [← eS2] at G
    refine gx_iload_n C hl dX12_element_65 rfl ?_
    refine gx_if_eq (tgt := 84) C ry3 dX12_element_66 (by decide) (fun c3 => ?_) (fun c3 => ?_)
    · have h := h.1 c3
      refine gx_lconst (x := 0) C (by decide) dX12_element_84 ?_
      exact gx_lret C G hret (show rng 0 by decide) h dX12_element_85
    · have h := h.2 c3
      refine gx_aload_n C hl dX12_element_69 rfl ?_
      refine gx_getF C G rfl (fX12_o hV) (fo11_48 (fX12_c hV)) (fX12_shelfRow hV) uw_1003 (fun _ h9 => h9) dX12_element_70 ?_
      refine gx_bipush C dX12_element_73 (by decide) ?_
      refine gx_iload_n C hl dX12_element_75 rfl ?_
      obtain ⟨h4, h⟩ := h
      refine gx_imul C dX12_element_76 ?_
      refine gx_iload_n C hl dX12_element_77 rfl ?_
      obtain ⟨h5, h⟩ := h
      refine gx_iadd C dX12_element_78 ?_
      obtain ⟨h6, h⟩ := h
      refine gx_iald C G rfl (fX12_shelfRow_l hV) (fX12_shelfRow_t hV) h5 h6.1 (ixl (fX12_shelfRow_n hV) h6.2) dX12_element_79 ?_
      have r7 := G.r (o + 28) (Int.toNat ((60 * x1) + x2))
      refine gx_i2l C r7 dX12_element_80 ?_
      refine gx_goto (tgt := 85) C dX12_element_81 (by decide) ?_
      exact gx_lret C G hret r7 h dX12_element_85
  have b40 : ∀ (w0 : Int) (S : Me) (H : Heap) (locs : List Loc) (ls : Array Slot), rng w0 → lo ad ls [some (.inr (some o)), some (.inl x1), some (.inl x2), none] → Gy D cy A s.heap ad V S H locs → B_X12_element_40 V o x1 x2 w0 S Q → W p l e (rmx 1 25) s m args below meth c H locs 0 0 (qmL below D cy ad V A args s Q) (F0 m 40 ls [vI w0]) := by
    intro w0 S H locs ls rw0 hl G h
    unfold B_X12_element_40 at h
    refine gx_istore_n C hl dX12_element_40 (Nat.le_of_ble_eq_true rfl) (PL' := [some (.inr (some o)), some (.inl x1), some (.inl x2), some (.inl w0)]) rfl (fun ls hl => ?_)
    refine gx_aload_n C hl dX12_element_41 rfl ?_
    refine gx_iload_n C hl dX12_element_42 rfl ?_
    refine gx_callS C G hl hml (c_X12_isShelf l D cy ad rx1 h) uw_1342 uw_1340 uw_1341 uw_9 hd_X12_isShelf ⟨Nat.le_of_ble_eq_true rfl, Nat.le_of_ble_eq_true rfl⟩ ⟨Nat.zero_le _, Nat.zero_le _⟩ rfl rfl (hw_le ad [.inr (some o)] rfl (Nat.le_of_ble_eq_true rfl)) dX12_element_43 (kkI (fun t9 S8 H locs rt9 h G => ?_))
    refine gx_if_ne (tgt := 53) C rt9 dX12_element_46 (by decide) (fun c10 => ?_) (fun c10 => ?_)
    · have h := h.1 c10
      refine gx_iload_n C hl dX12_element_53 rfl ?_
      refine gx_if_eq (tgt := 61) C rw0 dX12_element_54 (by decide) (fun c11 => ?_) (fun c11 => ?_)
      · have h := h.1 c11
        refine gx_iconst C dX12_element_61 ?_
        exact b62 w0 (some o) 2 S8 H locs ls rw0 (vsome (fX12_o hV)) (show rng 2 by decide) hl G h
      · have h := h.2 c11
        refine gx_iconst C dX12_element_57 ?_
        refine gx_goto (tgt := 62) C dX12_element_58 (by decide) ?_
        exact b62 w0 (some o) 0 S8 H locs ls rw0 (vsome (fX12_o hV)) (show rng 0 by decide) hl G h
    · have h := h.2 c10
      refine gx_iconst C dX12_element_49 ?_
      refine gx_goto (tgt := 62) C dX12_element_50 (by decide) ?_
      exact b62 w0 (some o) 1 S8 H locs ls rw0 (vsome (fX12_o hV)) (show rng 1 by decide) hl G h
  have b39 : ∀ (S : Me) (H : Heap) (locs : List Loc) (ls : Array Slot), lo ad ls [some (.inr (some o)), some (.inl x1), some (.inl x2), none] → Gy D cy A s.heap ad V S H locs → B_X12_element_39 V o x1 x2 S Q → W p l e (rmx 1 25) s m args below meth c H locs 0 0 (qmL below D cy ad V A args s Q) (F0 m 39 ls []) := by
    intro S H locs ls hl G h
    unfold B_X12_element_39 at h
    refine gx_iconst C dX12_element_39 ?_
    exact b40 0 S H locs ls (show rng 0 by decide) hl G h
  clear eA
  unfold PT_X12_element at h
  refine gx_iload_n C hl dX12_element_0 rfl ?_
  refine gx_callS C G hl hml (c_X12_isShelf l D cy ad rx1 h) uw_1342 uw_1340 uw_1341 uw_9 hd_X12_isShelf ⟨Nat.le_of_ble_eq_true rfl, Nat.le_of_ble_eq_true rfl⟩ ⟨Nat.zero_le _, Nat.zero_le _⟩ rfl rfl (hw_le ad [] rfl (Nat.le_of_ble_eq_true rfl)) dX12_element_1 (kkI (fun t13 S12 H locs rt13 h G => ?_))
  refine gx_if_eq (tgt := 39) C rt13 dX12_element_4 (by decide) (fun c14 => ?_) (fun c14 => ?_)
  · have h := h.1 c14
    exact b39 S12 H locs ls hl G h
  · have h := h.2 c14
    refine gx_aload_n C hl dX12_element_7 rfl ?_
    refine gx_getF C G rfl (fX12_o hV) (fo11_45 (fX12_c hV)) (fX12_shelf hV) uw_1000 (fun _ h9 => h9) dX12_element_8 ?_
    refine gx_iload_n C hl dX12_element_11 rfl ?_
    obtain ⟨h15, h⟩ := h
    refine gx_iald C G rfl (fX12_shelf_l hV) (fX12_shelf_t hV) rx1 h15.1 (ixl (fX12_shelf_n hV) h15.2) dX12_element_12 ?_
    have r16 := G.r (o + 25) (Int.toNat x1)
    refine gx_iconst C dX12_element_13 ?_
    refine gx_icmp_le (tgt := 39) C r16 (show rng 2 by decide) dX12_element_14 (by decide) (fun c17 => ?_) (fun c17 => ?_)
    · have h := h.1 c17
      exact b39 S12 H locs ls hl G h
    · have h := h.2 c17
      refine gx_iload_n C hl dX12_element_17 rfl ?_
      refine gx_i2l C rx2 dX12_element_18 ?_
      refine gx_lconst (x := 0) C (by decide) dX12_element_19 ?_
      refine gx_aload_n C hl dX12_element_20 rfl ?_
      refine gx_getF C G rfl (fX12_o hV) (fo11_46 (fX12_c hV)) (fX12_shelfSize hV) uw_1001 (fun _ h9 => h9) dX12_element_21 ?_
      refine gx_iload_n C hl dX12_element_24 rfl ?_
      obtain ⟨h18, h⟩ := h
      refine gx_iald C G rfl (fX12_shelfSize_l hV) (fX12_shelfSize_t hV) rx1 h18.1 (ixl (fX12_shelfSize_n hV) h18.2) dX12_element_25 ?_
      have r19 := G.r (o + 26) (Int.toNat x1)
      refine gx_iconst C dX12_element_26 ?_
      obtain ⟨h20, h⟩ := h
      refine gx_isub C dX12_element_27 ?_
      refine gx_i2l C h20 dX12_element_28 ?_
      refine gx_isIn C G hl hml rx2 (show rng 0 by decide) h20 uw_1115 ⟨Nat.le_of_ble_eq_true rfl, Nat.le_of_ble_eq_true rfl⟩ ⟨Nat.zero_le _, Nat.zero_le _⟩ (hw_le ad [] rfl (Nat.le_of_ble_eq_true rfl)) dX12_element_29 ?_
      refine gx_if_eq (tgt := 39) C (isin_r _ _ _) dX12_element_32 (by decide) (fun c21 => ?_) (fun c21 => ?_)
      · have h := h.1 c21
        exact b39 S12 H locs ls hl G h
      · have h := h.2 c21
        refine gx_iconst C dX12_element_35 ?_
        refine gx_goto (tgt := 40) C dX12_element_36 (by decide) ?_
        exact b40 1 S12 H locs ls (show rng 1 by decide) hl G h
