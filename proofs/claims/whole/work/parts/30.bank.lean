/-! ===== RowBank(): the class's table of first times, the eight shelves ===== -/
def ft (j : Nat) : Int := ([3, 8, 3, 2, 4, 4, 2, 5, 6, 2, 12, 10, 3] : List Int).getD j 0
theorem ft_r (j : Nat) : rng (ft j) := by
  unfold ft
  match j with
  | 0 | 1 | 2 | 3 | 4 | 5 | 6 | 7 | 8 | 9 | 10 | 11 | 12 => decide
  | j + 13 => simp; decide
def FT (A : Nat → Prop) (U : State) (H : Heap) : Prop := ∃ b : Nat, va_Z "RowBank" "FIRST_TIMES" "[I" (.ref b) A U H ∧ va_T .int b 13 (fun j => .int (Int32.ofInt (ft j))) A U H
def tcS (S : Me) (z dp n : Nat) : Me := (fun a k => if a = z ∧ dp ≤ k ∧ k < dp + n then ft (k - dp) else S.1 a k, S.2)
theorem tcS_1 (S : Me) (z dp n a k : Nat) : (tcS S z dp n).1 a k = if a = z ∧ dp ≤ k ∧ k < dp + n then ft (k - dp) else S.1 a k := rfl
section GB
variable {p : Program} {l : Launch} {e : Env} {R : Room} {s : State} {m : MethodId} {args : Array Value} {below : List Frame} {meth : Method} {c : Code} {H : Heap} {locs : List Loc} {cells slots : Nat} {Q : State → Prop} {cc : ByteArray} {pc : Nat} {ls : Array Slot} {rest : List Value} {D : va_G} {cy : ClassId × ClassId × ClassId × ClassId} {A : Nat → Prop} {ad : Nat → Nat} {V : Vt} {S : Me} {own : String} {PL : List (Option (Int ⊕ Option Nat))}
/-- a Shelf is put into the array of Shelves -/
theorem gx_aastS (C : Cx p s m args meth c cc own D cy A) (G : Gy D cy A s.heap ad V S H locs) {r : Option Nat} {z : Nat} (hz : r = some z) (hzl : z < V.1) (ht : V.2.1 z = 14) {i : Int} (ri : rng i) (h0 : 0 ≤ i) (h1 : i < (V.2.2.1 z : Int)) {x : Option Nat} {w : Nat} (hw : x = some w) (hwl : w < V.1) (hA : V.2.1 w = 7) (hdg : decode cc pc = .ok (.aastore, 1)) (kk : ∀ (H1 : Heap) (locs1 : List Loc), Gy D cy A s.heap ad V (sP S z i.toNat x) H1 locs1 → W p l e R s m args below meth c H1 locs1 cells slots Q (F0 m (pc + 1) ls rest)) : W p l e R s m args below meth c H locs cells slots Q (F0 m pc ls (vR ad x :: vI i :: vR ad r :: rest)) := by
  subst hz hw
  refine va_astq (r := (RX8, TX8, 3)) C.1 C.2.1 C.2.2.2.2.1.1 G.1.1 G.D G.2.2 z 2 w (V.2.1 w) (by rw [wo_at hzl, cf_s ht]) rfl (wo_o hwl (by omega)) (by rw [hA]; rfl) (rg_in ri h0 h1) hdg (fun H1 locs1 hP _ hS => ?_)
  rw [rg_cl ri, wo_sP (j := i.toNat) (r := some w) hzl (by
    rw [cf_s ht]
    congr 3
    refine congrArg (fun f => Sum.inr (Sum.inr (Sum.inr (Sum.inr f)))) (funext fun j => ?_)
    by_cases hj : j = i.toNat
    · subst hj; simp [va_up]
    · simp [va_up, hj])] at hP
  exact kk H1 locs1 ⟨Gx_sP (vsome hwl) hP G.1, G.2.1, hS⟩
/-- the table is put on the stack, and copied whole: both rows in one, with what stands between -/
theorem gx_copyT (C : Cx p s m args meth c cc own D cy A) (G : Gy D cy A s.heap ad V S H locs) (hlo : lo ad ls PL) (hml : c.maxLocals = PL.length) {b : Nat} (hT : va_T .int b 13 (fun j => .int (Int32.ofInt (ft j))) A s s.heap) {r1 : Option Nat} {z1 : Nat} (hz1 : r1 = some z1) (hzl1 : z1 < V.1) (ht1 : V.2.1 z1 = 12) (h5 : (13 : Int) ≤ (V.2.2.1 z1 : Int)) {index : Nat} (hlink : Cond.methodLink own index arraycopyName ∈ UW) (hR : 1 ≤ R.frames ∧ 8 + (nativeFrameWords "java/lang/System" "arraycopy" 5 + 11) ≤ R.locals) (hW : (rest.map fun v => v.category).sum ≤ 8) (hdg : decode cc pc = .ok (.invokestatic index, 3))
    (kk : ∀ (H1 : Heap) (locs1 : List Loc), Gy D cy A s.heap ad V (tcS S z1 0 13) H1 locs1 → W p l e R s m args below meth c H1 locs1 cells slots Q (F0 m (pc + 3) ls rest)) : W p l e R s m args below meth c H locs cells slots Q (F0 m pc ls (vI 13 :: vI 0 :: vR ad r1 :: vI 0 :: .ref b :: rest)) := by
  subst hz1
  have hts := C.2.2.2.1
  obtain ⟨scr, hc, hof, hkn, hN, -, hval, hbA⟩ := hT
  have hbl : b < s.heap.size := (Array.getElem?_eq_some_iff.mp hc).1
  have hcb : H[b]? = some scr := by rw [G.2.2.2.1 b hbl hbA]; exact hc
  obtain ⟨hst, k0, hk0, cm0, hkk0⟩ := hof
  have hc1 : H[ad z1]? = some (vp_cell cy.1 (V.2.2.1 z1, .inl (fun j => Int32.ofInt (S.1 z1 j)))) := G.1.1 z1 _ (wo_i hzl1 ht1)
  obtain ⟨-, k1, hk1, cm1, hkk1⟩ := (C.2.2.2.2.1.1.2 0 _ rfl).1 (V.2.2.1 z1) (fun j => .int (Int32.ofInt (S.1 z1 j)))
  intro T hT X
  obtain ⟨vm', X', step⟩ := X.arraycopy C.1 C.2.2.1 (hts _ hlink) (hts _ uwCpN) (hts _ uwCpS) (hts _ uwCpI) (src := b) (dst := ad z1) (cs := scr) (cd := vp_cell cy.1 (V.2.2.1 z1, .inl (fun j => Int32.ofInt (S.1 z1 j)))) (srcPos := Int32.ofInt 0) (destPos := Int32.ofInt 0) (n := Int32.ofInt 13) (by rw [hT]; exact hcb) (by rw [hT]; exact hc1)
    hst (fun _ h => by cases h) hkn (fun h => by cases h) hk0 hk1 hkk0 hkk1 (by rfl) (by decide) (by decide) (by decide)
    (by show ¬ (0 + 13 : Int) > (scr.slots.size : Int); omega)
    (by show ¬ (0 + 13 : Int) > ((arrV cy.1 (V.2.2.1 z1) (fun j => .int (Int32.ofInt (S.1 z1 j)))).slots.size : Int); rw [arrV_size]; omega)
    (fun vm₁ _ i hi => by
      have hi : i < 13 := hi
      have e9 : scr.slots.getD ((Int32.ofInt 0).toNatClampNeg + i) .null = .int (Int32.ofInt (ft i)) := by
        rw [show (Int32.ofInt 0).toNatClampNeg + i = i from Nat.zero_add i, Array.getD_eq_getD_getElem?, hval i hi]
        rfl
      refine ⟨?_, ?_⟩
      · rw [e9]; rfl
      · rw [e9]; exact trivial)
    (g := F0 m pc ls (vI 13 :: vI 0 :: vR ad (some z1) :: vI 0 :: .ref b :: rest)) rfl (hlo.1.trans hml.symm) (rest := rest) rfl (by rw [C.2.1]; exact hdg) hR.1 (by show 2 * 0 + _ + _ ≤ _; omega)
  have e1 : copied scr (vp_cell cy.1 (V.2.2.1 z1, .inl (fun j => Int32.ofInt (S.1 z1 j)))) (Int32.ofInt 0) (Int32.ofInt 0) (Int32.ofInt 13) = vp_cell cy.1 (V.2.2.1 z1, .inl (va_cpy (fun j => Int32.ofInt (ft j)) (fun j => Int32.ofInt (S.1 z1 j)) (Int32.ofInt 0).toNatClampNeg (Int32.ofInt 0).toNatClampNeg (Int32.ofInt 13).toNatClampNeg)) := va_copiedX (fun z => .int z) scr cy.1 (fun j => Int32.ofInt (ft j)) (fun j => Int32.ofInt (S.1 z1 j)) hval (Nat.le_of_ble_eq_true rfl)
  rw [e1] at X' step
  have hl9 : ad z1 < H.size := (Array.getElem?_eq_some_iff.mp hc1).1
  obtain ⟨cv, ecv⟩ : ∃ q, q = vp_cell cy.1 (V.2.2.1 z1, .inl (va_cpy (fun j => Int32.ofInt (ft j)) (fun j => Int32.ofInt (S.1 z1 j)) (Int32.ofInt 0).toNatClampNeg (Int32.ofInt 0).toNatClampNeg (Int32.ofInt 13).toNatClampNeg)) := ⟨_, rfl⟩
  rw [← ecv] at X' step
  have hheap : ((T.setVm vm').setCell (ad z1) cv).heap = H.setIfInBounds (ad z1) cv := by rw [← hT]; rfl
  have oq : ∀ q : Nat, q ≠ ad z1 → (H.setIfInBounds (ad z1) cv)[q]? = H[q]? := fun q hq => by simp [Array.getElem?_setIfInBounds, Ne.symm hq]
  have hnew : va_at D vwCl (ad z1, (.inl (cy.1, V.2.2.1 z1, .inl (va_cpy (fun j => Int32.ofInt (ft j)) (fun j => Int32.ofInt (S.1 z1 j)) (Int32.ofInt 0).toNatClampNeg (Int32.ofInt 0).toNatClampNeg (Int32.ofInt 13).toNatClampNeg)) : va_E)) (H.setIfInBounds (ad z1) cv) := by
    show (H.setIfInBounds (ad z1) cv)[ad z1]? = some _
    rw [← ecv]
    simp [Array.getElem?_setIfInBounds, hl9]
  have hP := G.1.1.set G.D (wo_i hzl1 ht1) hnew oq
  have hset : (wo cy ad V S).set z1 (ad z1, .inl (cy.1, V.2.2.1 z1, .inl (va_cpy (fun j => Int32.ofInt (ft j)) (fun j => Int32.ofInt (S.1 z1 j)) (Int32.ofInt 0).toNatClampNeg (Int32.ofInt 0).toNatClampNeg (Int32.ofInt 13).toNatClampNeg))) = wo cy ad V (tcS S z1 0 13) := by
    refine wo_set hzl1 (fun b hb => ?_) (fun b _ => rfl) ?_
    · funext k
      rw [tcS_1, if_neg (fun h => hb h.1)]
    · rw [cf_i ht1]
      congr 3
      refine congrArg Sum.inl (funext fun j => ?_)
      rw [tcS_1]
      show _ = va_cpy _ _ 0 0 13 j
      unfold va_cpy
      by_cases hj : 0 ≤ j ∧ j < 0 + 13
      · rw [if_pos hj, if_pos ⟨rfl, hj⟩, Nat.zero_add]
      · rw [if_neg hj, if_neg (fun h => hj h.2)]
  rw [hset] at hP
  obtain ⟨t, a1, b1⟩ := kk _ _ ⟨⟨hP, G.1.2.1, fun a k => by
      rw [tcS_1]
      split
      · exact ft_r _
      · exact G.r a k, G.1.2.2.2.1, G.1.2.2.2.2.1, G.1.2.2.2.2.2⟩, G.2.1, by simp; exact G.2.2.1, fun q g1 g2 => by
      rw [oq q (fun e9 => g2 (by rw [e9]; exact G.2.1 z1 hzl1))]
      exact G.2.2.2.1 q g1 g2, fun q hq => by
      rcases List.mem_append.mp hq with h | h
      · exact G.2.2.2.2 q h
      · obtain ⟨z, -, hz⟩ := List.mem_map.mp h
        rw [← hz]
        exact G.2.1 z1 hzl1⟩ _ hheap X'
  exact ⟨t, step t a1, b1⟩
def KCT (l : Launch) (D : va_G) (cy : ClassId × ClassId × ClassId × ClassId) (y : MethodName) (cc : ByteArray) (n : Nat) (fr lc mc ms : Nat) (ad : Nat → Nat) (V : Vt) (S : Me) (vs : List (Int ⊕ Option Nat)) (Qi : Vt → Me → Prop) : Prop :=
  ∀ sz : Nat, Met l y (.code y cc n none :: UW) ({ frames := fr, cells := mc, slots := ms, locals := lc }) (va_Pc (vs.map (vS ad)) (fun U => U.heap.size = sz ∧ Gx D cy ad V S U.heap ∧ Kx D cy U ∧ FT (RA ad V.1 sz) U U.heap)) (fun _ st oc t => (∃ (ad' : Nat → Nat) (V' : Vt) (S' : Me), oc = .returned none ∧ (∀ k, k < V.1 → ad' k = ad k) ∧ (∀ k, k < V'.1 → RA ad V.1 sz (ad' k)) ∧ exT V V' ∧ Qi V' S' ∧ Gx D cy ad' V' S' t.heap) ∧ va_F (RA ad V.1 sz) st t) mc ms (RA ad V.1 sz)
theorem KCT.of {y : MethodName} {cc : ByteArray} {n fr lc mc ms : Nat} {vs : List (Int ⊕ Option Nat)} {Qi : Vt → Me → Prop} {own : String} (hy : plainName y.cls = true) (ho : y.cls = own) (hvl : vs.length ≤ n)
    (body : ∀ (p : Program) (e : Env) (s : State) (m : MethodId) (args : Array Value) (below : List Frame) (meth : Method) (c : Code) (A : Nat → Prop) (ls : Array Slot) (H : Heap) (locs : List Loc), A = RA ad V.1 s.heap.size → Cx p s m args meth c cc own D cy A → meth.sig.returnType = none → c.maxLocals = n → meth.name = y.name → FT A s s.heap → lo ad ls (vs.map some ++ List.replicate (n - vs.length) none) → Gy D cy A s.heap ad V S H locs →
      W p l e (rmA fr lc mc ms) s m args below meth c H locs 0 0 (qmC below D cy ad V A args s mc ms Qi) (F0 m 0 ls [])) : KCT l D cy y cc n fr lc mc ms ad V S vs Qi := by
  intro sz
  refine Met.ofW (cc := cc) (maxL := n) (ret := none) hy rfl ?_
  intro p e s m args below meth c s₁ B hml hv
  obtain ⟨rfl, hsz, hG, hK, hFT⟩ := hv
  subst hsz
  have hts := atoms_spec (ws := (.code y cc n none :: UW)) B.pre
  have hown : s.vm.findClass own = some m.cls := by rw [← ho]; exact findClass_of_methodNamed B.named
  have hl := lo_entry ad vs n hvl
  rw [lg_entry_eq]
  generalize (lg_sl (vs.map (vS ad)) ++ List.replicate (n - (lg_sl (vs.map (vS ad))).length) Slot.unset).toArray = ls at hl ⊢
  exact body p e s m _ below meth c _ ls s.heap [] rfl ⟨B.exec, B.bytes, hown, fun w hw => hts w (List.mem_cons_of_mem _ hw), hK, fun q h => Or.inr h, B.notSynchronized⟩ B.returns hml (name_of_methodNamed B.named B.method).1 hFT hl ⟨hG, fun k hk => Or.inl ⟨k, hk, rfl⟩, va_S.rf⟩
end GB

def PT_X11_init (V : Vt) (o : Nat) (S : Me) (Q : Vt → Me → Prop) : Prop := ∀ U1 : Vt, U1 = V → ∀ V : Vt, V = nV U1 12 (Int.toNat 13) → ∀ S2 : Me, S2 = nS U1 S → ∀ U6 : Vt, U6 = V → ∀ V : Vt, V = fV U6 o 0 U1.1 → ∀ U10 : Vt, U10 = V → ∀ V : Vt, V = nV U10 4 0 → ∀ S11 : Me, S11 = nS U10 S2 → PT_X5_init V U10.1 S11 (fun V S15 => ∀ U22 : Vt, U22 = V → ∀ V : Vt, V = fV U22 o 1 U10.1 → ∀ U26 : Vt, U26 = V → ∀ V : Vt, V = nV U26 0 0 → ∀ S27 : Me, S27 = nS U26 S15 → PT_X1_init V U26.1 S27 (fun V S31 => ∀ U38 : Vt, U38 = V → ∀ V : Vt, V = fV U38 o 2 U26.1 → ∀ U42 : Vt, U42 = V → ∀ V : Vt, V = nV U42 3 0 → ∀ S43 : Me, S43 = nS U42 S31 → PT_X4_init V U42.1 S43 (fun V S47 => ∀ U54 : Vt, U54 = V → ∀ V : Vt, V = fV U54 o 3 U42.1 → ∀ U58 : Vt, U58 = V → ∀ V : Vt, V = nV U58 6 0 → ∀ S59 : Me, S59 = nS U58 S47 → PT_X7_init V U58.1 S59 (fun V S63 => ∀ U70 : Vt, U70 = V → ∀ V : Vt, V = fV U70 o 4 U58.1 → ∀ U74 : Vt, U74 = V → ∀ V : Vt, V = nV U74 14 8 → ∀ S75 : Me, S75 = nS U74 S63 → ∀ U79 : Vt, U79 = V → ∀ V : Vt, V = fV U79 o 5 U74.1 → ∀ S83 : Me, S83 = sI S75 o 6 1 → ∀ S84 : Me, S84 = sI S83 o 7 0 → ∀ S85 : Me, S85 = sI S84 o 8 4 → ∀ S86 : Me, S86 = sI S85 o 9 0 → ∀ S87 : Me, S87 = sI S86 o 10 0 → ∀ S88 : Me, S88 = sI S87 o 11 4 → ∀ S89 : Me, S89 = sI S88 o 12 0 → ∀ S90 : Me, S90 = sI S89 o 13 0 → ∀ S91 : Me, S91 = sI S90 o 14 (-2) → ∀ S92 : Me, S92 = sP S91 o 15 none → ∀ q94 : Option Nat, q94 = V.2.2.2 o 0 → ∃ z95 : Nat, q94 = some z95 ∧ V.2.1 z95 = 12 ∧ ((13 : Int) ≤ (V.2.2.1 z95 : Int)) ∧ ∀ S97 : Me, S97 = tcS S92 z95 0 13 → ∀ q99 : Option Nat, q99 = V.2.2.2 o 5 → ∀ U100 : Vt, U100 = V → ∀ V : Vt, V = nV U100 7 0 → ∀ S101 : Me, S101 = nS U100 S97 → PT_X8_init V U100.1 S101 (fun V S108 => ∃ z118 : Nat, q99 = some z118 ∧ V.2.1 z118 = 14 ∧ ((0 : Int) < (V.2.2.1 z118 : Int)) ∧ ∀ S120 : Me, S120 = sP S108 z118 (Int.toNat 0) (some U100.1) → ∀ q122 : Option Nat, q122 = V.2.2.2 o 5 → ∀ U123 : Vt, U123 = V → ∀ V : Vt, V = nV U123 7 0 → ∀ S124 : Me, S124 = nS U123 S120 → PT_X8_init V U123.1 S124 (fun V S133 => ∃ z145 : Nat, q122 = some z145 ∧ V.2.1 z145 = 14 ∧ ((1 : Int) < (V.2.2.1 z145 : Int)) ∧ ∀ S147 : Me, S147 = sP S133 z145 (Int.toNat 1) (some U123.1) → ∀ q149 : Option Nat, q149 = V.2.2.2 o 5 → ∀ U150 : Vt, U150 = V → ∀ V : Vt, V = nV U150 7 0 → ∀ S151 : Me, S151 = nS U150 S147 → PT_X8_init V U150.1 S151 (fun V S162 => ∃ z176 : Nat, q149 = some z176 ∧ V.2.1 z176 = 14 ∧ ((2 : Int) < (V.2.2.1 z176 : Int)) ∧ ∀ S178 : Me, S178 = sP S162 z176 (Int.toNat 2) (some U150.1) → ∀ q180 : Option Nat, q180 = V.2.2.2 o 5 → ∀ U181 : Vt, U181 = V → ∀ V : Vt, V = nV U181 7 0 → ∀ S182 : Me, S182 = nS U181 S178 → PT_X8_init V U181.1 S182 (fun V S195 => ∃ z211 : Nat, q180 = some z211 ∧ V.2.1 z211 = 14 ∧ ((3 : Int) < (V.2.2.1 z211 : Int)) ∧ ∀ S213 : Me, S213 = sP S195 z211 (Int.toNat 3) (some U181.1) → ∀ q215 : Option Nat, q215 = V.2.2.2 o 5 → ∀ U216 : Vt, U216 = V → ∀ V : Vt, V = nV U216 7 0 → ∀ S217 : Me, S217 = nS U216 S213 → PT_X8_init V U216.1 S217 (fun V S232 => ∃ z250 : Nat, q215 = some z250 ∧ V.2.1 z250 = 14 ∧ ((4 : Int) < (V.2.2.1 z250 : Int)) ∧ ∀ S252 : Me, S252 = sP S232 z250 (Int.toNat 4) (some U216.1) → ∀ q254 : Option Nat, q254 = V.2.2.2 o 5 → ∀ U255 : Vt, U255 = V → ∀ V : Vt, V = nV U255 7 0 → ∀ S256 : Me, S256 = nS U255 S252 → PT_X8_init V U255.1 S256 (fun V S273 => ∃ z293 : Nat, q254 = some z293 ∧ V.2.1 z293 = 14 ∧ ((5 : Int) < (V.2.2.1 z293 : Int)) ∧ ∀ S295 : Me, S295 = sP S273 z293 (Int.toNat 5) (some U255.1) → ∀ q297 : Option Nat, q297 = V.2.2.2 o 5 → ∀ U298 : Vt, U298 = V → ∀ V : Vt, V = nV U298 7 0 → ∀ S299 : Me, S299 = nS U298 S295 → PT_X8_init V U298.1 S299 (fun V S318 => ∃ z340 : Nat, q297 = some z340 ∧ V.2.1 z340 = 14 ∧ ((6 : Int) < (V.2.2.1 z340 : Int)) ∧ ∀ S342 : Me, S342 = sP S318 z340 (Int.toNat 6) (some U298.1) → ∀ q344 : Option Nat, q344 = V.2.2.2 o 5 → ∀ U345 : Vt, U345 = V → ∀ V : Vt, V = nV U345 7 0 → ∀ S346 : Me, S346 = nS U345 S342 → PT_X8_init V U345.1 S346 (fun V S367 => ∃ z391 : Nat, q344 = some z391 ∧ V.2.1 z391 = 14 ∧ ((7 : Int) < (V.2.2.1 z391 : Int)) ∧ ∀ S393 : Me, S393 = sP S367 z391 (Int.toNat 7) (some U345.1) → Q V S393))))))))))))
theorem hd_X11_init : yX11_init.cls ≠ "java/lang/invoke/MethodHandle" ∧ yX11_init.cls ≠ "java/lang/invoke/VarHandle" ∧ (parseMethodDescriptor yX11_init.desc).map (fun d => d.parameters.length) = some 0 := by decide +kernel
set_option maxHeartbeats 4000000 in
set_option maxRecDepth 100000 in
theorem c_X11_init (l : Launch) (D : va_G) (cy : ClassId × ClassId × ClassId × ClassId) (ad : Nat → Nat) {V : Vt} {S : Me} {o : Nat} (ho : o < V.1) (ht : V.2.1 o = 10) {Q : Vt → Me → Prop} (h : PT_X11_init V o S Q) : KCT l D cy yX11_init cX11_init 2 4 83 41 5003 ad V S [.inr (some o)] Q := by
  refine KCT.of (by decide) rfl (Nat.le_of_ble_eq_true rfl) (own := RX11) (fun p e s m args below meth c A ls H locs eA C hret hml hmn hFT hl G => ?_)
  have hl : lo ad ls [some (.inr (some o)), none] := hl
  obtain ⟨ad0, ead0⟩ : ∃ q : Nat → Nat, q = ad := ⟨_, rfl⟩
  obtain ⟨V0, eV0⟩ : ∃ q : Vt, q = V := ⟨_, rfl⟩
  have hag : ∀ k, k < V0.1 → ad k = ad0 k := fun k _ => by rw [ead0]
  have hex : exT V0 V := by rw [eV0]; exact exT.rf V
  rw [← ead0, ← eV0]
  clear eV0 ead0
  clear eA
  unfold PT_X11_init at h
  refine gx_aload_n C hl dX11_init_0 rfl ?_
  refine gx_objInit C hl hml rfl uw_28 ⟨Nat.le_of_ble_eq_true rfl, Nat.le_of_ble_eq_true rfl⟩ (hw_le ad [] rfl (Nat.le_of_ble_eq_true rfl)) dX11_init_1 ?_
  refine gx_aload_n C hl dX11_init_4 rfl ?_
  refine gx_bipush C dX11_init_5 (by decide) ?_
  obtain ⟨U1, rfl⟩ : ∃ q : Vt, q = V := ⟨_, rfl⟩
  have h := h U1 rfl
  refine gx_newa C G hl (okP_S (okv_R (vsome ho)) (okP_N okP_0)) (show rng 13 by decide) 13 (by decide) (by decide) (Nat.le_of_ble_eq_true rfl) (Nat.le_of_ble_eq_true rfl) (Nat.le_of_ble_eq_true rfl) [.inr (some o)] rfl (okS_S (okv_R (vsome ho)) okS_0) dX11_init_7 (fun ad V S2 H eV eS hag1 hex1 hl G => ?_)
  have h := h V eV S2 eS
  have hex1 := exT.of hex1
  have nlU1 : U1.1 < V.1 := by rw [eV]; exact Nat.lt_succ_self _
  have ntU1 : V.2.1 U1.1 = 12 := by rw [eV]; simp [nV]
  have v3 := hex1.vl (vsome ho)
  have l4 := hex1.lt ho
  have t5 := hex1.ty ho ht
  have hag := fun k hk => (hag1 k (hex.lt hk)).trans (hag k hk)
  have hex := hex.tr hex1
  have ngU1 : V.2.2.1 U1.1 = 13 := by rw [eV]; simp [nV]
  obtain ⟨U6, rfl⟩ : ∃ q : Vt, q = V := ⟨_, rfl⟩
  have h := h U6 rfl
  refine gx_putF C hmn G rfl l4 (fo10_0 t5) (Or.inr ⟨_, rfl⟩) rfl nlU1 uw_215 dX11_init_9 (fun V H locs eV hex1 G => ?_)
  have h := h V eV
  have v7 := hex1.vl v3
  have l8 := hex1.lt l4
  have t9 := hex1.ty l4 t5
  have hag := hag
  have hex := hex.tr hex1
  refine gx_aload_n C hl dX11_init_12 rfl ?_
  obtain ⟨U10, rfl⟩ : ∃ q : Vt, q = V := ⟨_, rfl⟩
  have h := h U10 rfl
  refine gx_new C G hl (okP_S (okv_R v7) (okP_N okP_0)) (t := 4) rfl iu4 tyX5 tyX5_ok (df_4 ad) (by decide) uw_31 uw_32 uw_2 (Nat.le_of_ble_eq_true rfl) (Nat.le_of_ble_eq_true rfl) [.inr (some o)] rfl (okS_S (okv_R v7) okS_0) dX11_init_13 (fun ad V S11 H eV eS hag1 hex1 hl G => ?_)
  have h := h V eV S11 eS
  have hex1 := exT.of hex1
  have nlU10 : U10.1 < V.1 := by rw [eV]; exact Nat.lt_succ_self _
  have ntU10 : V.2.1 U10.1 = 4 := by rw [eV]; simp [nV]
  have v12 := hex1.vl v7
  have l13 := hex1.lt l8
  have t14 := hex1.ty l8 t9
  have hag := fun k hk => (hag1 k (hex.lt hk)).trans (hag k hk)
  have hex := hex.tr hex1
  refine gx_dupR C dX11_init_16 ?_
  refine gx_callIC C G hl (okP_S (okv_R v12) (okP_N okP_0)) hml (c_X5_init l D cy ad nlU10 ntU10 h) rfl uw_35 uw_33 uw_34 uw_2 rfl hd_X5_init ⟨Nat.le_of_ble_eq_true rfl, Nat.le_of_ble_eq_true rfl⟩ ⟨Nat.le_of_ble_eq_true rfl, Nat.le_of_ble_eq_true rfl⟩ [.inr (some U10.1), .inr (some o)] (okS_S (okv_R (vsome nlU10)) (okS_S (okv_R v12) okS_0)) rfl (Nat.le_of_ble_eq_true rfl) dX11_init_17 (fun ad V S15 H locs h hag1 hex1 hl G => ?_)
  have v16 := hex1.vl v12
  have l17 := hex1.lt l13
  have t18 := hex1.ty l13 t14
  have v19 := hex1.vl (vsome nlU10)
  have l20 := hex1.lt nlU10
  have t21 := hex1.ty nlU10 ntU10
  have hag := fun k hk => (hag1 k (hex.lt hk)).trans (hag k hk)
  have hex := hex.tr hex1
  obtain ⟨U22, rfl⟩ : ∃ q : Vt, q = V := ⟨_, rfl⟩
  have h := h U22 rfl
  refine gx_putF C hmn G rfl l17 (fo10_1 t18) (Or.inl ⟨_, rfl⟩) rfl l20 uw_216 dX11_init_20 (fun V H locs eV hex1 G => ?_)
  have h := h V eV
  have v23 := hex1.vl v16
  have l24 := hex1.lt l17
  have t25 := hex1.ty l17 t18
  have hag := hag
  have hex := hex.tr hex1
  refine gx_aload_n C hl dX11_init_23 rfl ?_
  obtain ⟨U26, rfl⟩ : ∃ q : Vt, q = V := ⟨_, rfl⟩
  have h := h U26 rfl
  refine gx_new C G hl (okP_S (okv_R v23) (okP_N okP_0)) (t := 0) rfl iu0 tyX1 tyX1_ok (df_0 ad) (by decide) uw_83 uw_84 uw_4 (Nat.le_of_ble_eq_true rfl) (Nat.le_of_ble_eq_true rfl) [.inr (some o)] rfl (okS_S (okv_R v23) okS_0) dX11_init_24 (fun ad V S27 H eV eS hag1 hex1 hl G => ?_)
  have h := h V eV S27 eS
  have hex1 := exT.of hex1
  have nlU26 : U26.1 < V.1 := by rw [eV]; exact Nat.lt_succ_self _
  have ntU26 : V.2.1 U26.1 = 0 := by rw [eV]; simp [nV]
  have v28 := hex1.vl v23
  have l29 := hex1.lt l24
  have t30 := hex1.ty l24 t25
  have hag := fun k hk => (hag1 k (hex.lt hk)).trans (hag k hk)
  have hex := hex.tr hex1
  refine gx_dupR C dX11_init_27 ?_
  refine gx_callICN (host := RX11) C G hl (okP_S (okv_R v28) (okP_N okP_0)) hml (c_X1_init l D cy ad nlU26 ntU26 h) rfl uw_87 (by decide +kernel) uw_86 uw_4 rfl hd_X1_init ⟨Nat.le_of_ble_eq_true rfl, Nat.le_of_ble_eq_true rfl⟩ ⟨Nat.le_of_ble_eq_true rfl, Nat.le_of_ble_eq_true rfl⟩ [.inr (some U26.1), .inr (some o)] (okS_S (okv_R (vsome nlU26)) (okS_S (okv_R v28) okS_0)) rfl (Nat.le_of_ble_eq_true rfl) dX11_init_28 (fun ad V S31 H locs h hag1 hex1 hl G => ?_)
  have v32 := hex1.vl v28
  have l33 := hex1.lt l29
  have t34 := hex1.ty l29 t30
  have v35 := hex1.vl (vsome nlU26)
  have l36 := hex1.lt nlU26
  have t37 := hex1.ty nlU26 ntU26
  have hag := fun k hk => (hag1 k (hex.lt hk)).trans (hag k hk)
  have hex := hex.tr hex1
  obtain ⟨U38, rfl⟩ : ∃ q : Vt, q = V := ⟨_, rfl⟩
  have h := h U38 rfl
  refine gx_putF C hmn G rfl l33 (fo10_2 t34) (Or.inl ⟨_, rfl⟩) rfl l36 uw_217 dX11_init_31 (fun V H locs eV hex1 G => ?_)
  have h := h V eV
  have v39 := hex1.vl v32
  have l40 := hex1.lt l33
  have t41 := hex1.ty l33 t34
  have hag := hag
  have hex := hex.tr hex1
  refine gx_aload_n C hl dX11_init_34 rfl ?_
  obtain ⟨U42, rfl⟩ : ∃ q : Vt, q = V := ⟨_, rfl⟩
  have h := h U42 rfl
  refine gx_new C G hl (okP_S (okv_R v39) (okP_N okP_0)) (t := 3) rfl iu3 tyX4 tyX4_ok (df_3 ad) (by decide) uw_127 uw_128 uw_5 (Nat.le_of_ble_eq_true rfl) (Nat.le_of_ble_eq_true rfl) [.inr (some o)] rfl (okS_S (okv_R v39) okS_0) dX11_init_35 (fun ad V S43 H eV eS hag1 hex1 hl G => ?_)
  have h := h V eV S43 eS
  have hex1 := exT.of hex1
  have nlU42 : U42.1 < V.1 := by rw [eV]; exact Nat.lt_succ_self _
  have ntU42 : V.2.1 U42.1 = 3 := by rw [eV]; simp [nV]
  have v44 := hex1.vl v39
  have l45 := hex1.lt l40
  have t46 := hex1.ty l40 t41
  have hag := fun k hk => (hag1 k (hex.lt hk)).trans (hag k hk)
  have hex := hex.tr hex1
  refine gx_dupR C dX11_init_38 ?_
  refine gx_callICN (host := RX11) C G hl (okP_S (okv_R v44) (okP_N okP_0)) hml (c_X4_init l D cy ad nlU42 ntU42 h) rfl uw_131 (by decide +kernel) uw_130 uw_5 rfl hd_X4_init ⟨Nat.le_of_ble_eq_true rfl, Nat.le_of_ble_eq_true rfl⟩ ⟨Nat.le_of_ble_eq_true rfl, Nat.le_of_ble_eq_true rfl⟩ [.inr (some U42.1), .inr (some o)] (okS_S (okv_R (vsome nlU42)) (okS_S (okv_R v44) okS_0)) rfl (Nat.le_of_ble_eq_true rfl) dX11_init_39 (fun ad V S47 H locs h hag1 hex1 hl G => ?_)
  have v48 := hex1.vl v44
  have l49 := hex1.lt l45
  have t50 := hex1.ty l45 t46
  have v51 := hex1.vl (vsome nlU42)
  have l52 := hex1.lt nlU42
  have t53 := hex1.ty nlU42 ntU42
  have hag := fun k hk => (hag1 k (hex.lt hk)).trans (hag k hk)
  have hex := hex.tr hex1
  obtain ⟨U54, rfl⟩ : ∃ q : Vt, q = V := ⟨_, rfl⟩
  have h := h U54 rfl
  refine gx_putF C hmn G rfl l49 (fo10_3 t50) (Or.inl ⟨_, rfl⟩) rfl l52 uw_218 dX11_init_42 (fun V H locs eV hex1 G => ?_)
  have h := h V eV
  have v55 := hex1.vl v48
  have l56 := hex1.lt l49
  have t57 := hex1.ty l49 t50
  have hag := hag
  have hex := hex.tr hex1
  refine gx_aload_n C hl dX11_init_45 rfl ?_
  obtain ⟨U58, rfl⟩ : ∃ q : Vt, q = V := ⟨_, rfl⟩
  have h := h U58 rfl
  refine gx_new C G hl (okP_S (okv_R v55) (okP_N okP_0)) (t := 6) rfl iu6 tyX7 tyX7_ok (df_6 ad) (by decide) uw_143 uw_144 uw_6 (Nat.le_of_ble_eq_true rfl) (Nat.le_of_ble_eq_true rfl) [.inr (some o)] rfl (okS_S (okv_R v55) okS_0) dX11_init_46 (fun ad V S59 H eV eS hag1 hex1 hl G => ?_)
  have h := h V eV S59 eS
  have hex1 := exT.of hex1
  have nlU58 : U58.1 < V.1 := by rw [eV]; exact Nat.lt_succ_self _
  have ntU58 : V.2.1 U58.1 = 6 := by rw [eV]; simp [nV]
  have v60 := hex1.vl v55
  have l61 := hex1.lt l56
  have t62 := hex1.ty l56 t57
  have hag := fun k hk => (hag1 k (hex.lt hk)).trans (hag k hk)
  have hex := hex.tr hex1
  refine gx_dupR C dX11_init_49 ?_
  refine gx_callICN (host := RX11) C G hl (okP_S (okv_R v60) (okP_N okP_0)) hml (c_X7_init l D cy ad nlU58 ntU58 h) rfl uw_147 (by decide +kernel) uw_146 uw_6 rfl hd_X7_init ⟨Nat.le_of_ble_eq_true rfl, Nat.le_of_ble_eq_true rfl⟩ ⟨Nat.le_of_ble_eq_true rfl, Nat.le_of_ble_eq_true rfl⟩ [.inr (some U58.1), .inr (some o)] (okS_S (okv_R (vsome nlU58)) (okS_S (okv_R v60) okS_0)) rfl (Nat.le_of_ble_eq_true rfl) dX11_init_50 (fun ad V S63 H locs h hag1 hex1 hl G => ?_)
  have v64 := hex1.vl v60
  have l65 := hex1.lt l61
  have t66 := hex1.ty l61 t62
  have v67 := hex1.vl (vsome nlU58)
  have l68 := hex1.lt nlU58
  have t69 := hex1.ty nlU58 ntU58
  have hag := fun k hk => (hag1 k (hex.lt hk)).trans (hag k hk)
  have hex := hex.tr hex1
  obtain ⟨U70, rfl⟩ : ∃ q : Vt, q = V := ⟨_, rfl⟩
  have h := h U70 rfl
  refine gx_putF C hmn G rfl l65 (fo10_4 t66) (Or.inl ⟨_, rfl⟩) rfl l68 uw_219 dX11_init_53 (fun V H locs eV hex1 G => ?_)
  have h := h V eV
  have v71 := hex1.vl v64
  have l72 := hex1.lt l65
  have t73 := hex1.ty l65 t66
  have hag := hag
  have hex := hex.tr hex1
  refine gx_aload_n C hl dX11_init_56 rfl ?_
  refine gx_bipush C dX11_init_57 (by decide) ?_
  obtain ⟨U74, rfl⟩ : ∃ q : Vt, q = V := ⟨_, rfl⟩
  have h := h U74 rfl
  refine gx_anew C G hl (okP_S (okv_R v71) (okP_N okP_0)) (show rng 8 by decide) 8 (by decide) rfl (Nat.le_of_ble_eq_true rfl) (Or.inr ⟨rfl, rfl⟩) uw_190 uwAO_14 (Nat.le_of_ble_eq_true rfl) (Nat.le_of_ble_eq_true rfl) [.inr (some o)] rfl (okS_S (okv_R v71) okS_0) dX11_init_59 (fun ad V S75 H eV eS hag1 hex1 hl G => ?_)
  have h := h V eV S75 eS
  have hex1 := exT.of hex1
  have nlU74 : U74.1 < V.1 := by rw [eV]; exact Nat.lt_succ_self _
  have ntU74 : V.2.1 U74.1 = 14 := by rw [eV]; simp [nV]
  have v76 := hex1.vl v71
  have l77 := hex1.lt l72
  have t78 := hex1.ty l72 t73
  have hag := fun k hk => (hag1 k (hex.lt hk)).trans (hag k hk)
  have hex := hex.tr hex1
  have ngU74 : V.2.2.1 U74.1 = 8 := by rw [eV]; simp [nV]
  obtain ⟨U79, rfl⟩ : ∃ q : Vt, q = V := ⟨_, rfl⟩
  have h := h U79 rfl
  refine gx_putF C hmn G rfl l77 (fo10_5 t78) (Or.inr ⟨_, rfl⟩) rfl nlU74 uw_220 dX11_init_62 (fun V H locs eV hex1 G => ?_)
  have h := h V eV
  have v80 := hex1.vl v76
  have l81 := hex1.lt l77
  have t82 := hex1.ty l77 t78
  have hag := hag
  have hex := hex.tr hex1
  refine gx_aload_n C hl dX11_init_65 rfl ?_
  refine gx_iconst C dX11_init_66 ?_
  refine gx_putI C G rfl l81 (fo10_6 t82) (show rng 1 by decide) uw_221 (fun _ h9 => h9) dX11_init_67 (fun H locs G => ?_)
  obtain ⟨S83, eS83⟩ : ∃ q9 : Me, q9 = sI S75 o 6 1 := ⟨_, rfl⟩
  have h := h S83 eS83
  rw [← eS83] at G
  refine gx_aload_n C hl dX11_init_70 rfl ?_
  refine gx_iconst C dX11_init_71 ?_
  refine gx_putI C G rfl l81 (fo10_7 t82) (show rng 0 by decide) uw_222 (fun _ h9 => h9) dX11_init_72 (fun H locs G => ?_)
  obtain ⟨S84, eS84⟩ : ∃ q9 : Me, q9 = sI S83 o 7 0 := ⟨_, rfl⟩
  have h := h S84 eS84
  rw [← eS84] at G
  refine gx_aload_n C hl dX11_init_75 rfl ?_
  refine gx_iconst C dX11_init_76 ?_
  refine gx_putI C G rfl l81 (fo10_8 t82) (show rng 4 by decide) uw_223 (fun _ h9 => h9) dX11_init_77 (fun H locs G => ?_)
  obtain ⟨S85, eS85⟩ : ∃ q9 : Me, q9 = sI S84 o 8 4 := ⟨_, rfl⟩
  have h := h S85 eS85
  rw [← eS85] at G
  refine gx_aload_n C hl dX11_init_80 rfl ?_
  refine gx_iconst C dX11_init_81 ?_
  refine gx_putI C G rfl l81 (fo10_9 t82) (show rng 0 by decide) uw_224 (fun _ h9 => h9) dX11_init_82 (fun H locs G => ?_)
  obtain ⟨S86, eS86⟩ : ∃ q9 : Me, q9 = sI S85 o 9 0 := ⟨_, rfl⟩
  have h := h S86 eS86
  rw [← eS86] at G
  refine gx_aload_n C hl dX11_init_85 rfl ?_
  refine gx_iconst C dX11_init_86 ?_
  refine gx_putI C G rfl l81 (fo10_10 t82) (show rng 0 by decide) uw_225 (fun _ h9 => h9) dX11_init_87 (fun H locs G => ?_)
  obtain ⟨S87, eS87⟩ : ∃ q9 : Me, q9 = sI S86 o 10 0 := ⟨_, rfl⟩
  have h := h S87 eS87
  rw [← eS87] at G
  refine gx_aload_n C hl dX11_init_90 rfl ?_
  refine gx_iconst C dX11_init_91 ?_
  refine gx_putI C G rfl l81 (fo10_11 t82) (show rng 4 by decide) uw_226 (fun _ h9 => h9) dX11_init_92 (fun H locs G => ?_)
  obtain ⟨S88, eS88⟩ : ∃ q9 : Me, q9 = sI S87 o 11 4 := ⟨_, rfl⟩
  have h := h S88 eS88
  rw [← eS88] at G
  refine gx_aload_n C hl dX11_init_95 rfl ?_
  refine gx_iconst C dX11_init_96 ?_
  refine gx_putI C G rfl l81 (fo10_12 t82) (show rng 0 by decide) uw_227 (fun _ h9 => h9) dX11_init_97 (fun H locs G => ?_)
  obtain ⟨S89, eS89⟩ : ∃ q9 : Me, q9 = sI S88 o 12 0 := ⟨_, rfl⟩
  have h := h S89 eS89
  rw [← eS89] at G
  refine gx_aload_n C hl dX11_init_100 rfl ?_
  refine gx_iconst C dX11_init_101 ?_
  refine gx_putI C G rfl l81 (fo10_13 t82) (show rng 0 by decide) uw_228 (fun _ h9 => h9) dX11_init_102 (fun H locs G => ?_)
  obtain ⟨S90, eS90⟩ : ∃ q9 : Me, q9 = sI S89 o 13 0 := ⟨_, rfl⟩
  have h := h S90 eS90
  rw [← eS90] at G
  refine gx_aload_n C hl dX11_init_105 rfl ?_
  refine gx_bipush C dX11_init_106 (by decide) ?_
  refine gx_putI C G rfl l81 (fo10_14 t82) (show rng (-2) by decide) uw_229 (fun _ h9 => h9) dX11_init_108 (fun H locs G => ?_)
  obtain ⟨S91, eS91⟩ : ∃ q9 : Me, q9 = sI S90 o 14 (-2) := ⟨_, rfl⟩
  have h := h S91 eS91
  rw [← eS91] at G
  refine gx_aload_n C hl dX11_init_111 rfl ?_
  refine gx_null (ad := ad) C dX11_init_112 ?_
  refine gx_putP C G rfl l81 (fo10_15 t82) (Or.inl ⟨_, rfl⟩) vnone uw_230 (fun _ h9 => h9) dX11_init_113 (fun H locs G => ?_)
  obtain ⟨S92, eS92⟩ : ∃ q9 : Me, q9 = sP S91 o 15 none := ⟨_, rfl⟩
  have h := h S92 eS92
  rw [← eS92] at G
  obtain ⟨b9, hZ9, hT9⟩ := hFT
  refine va_gets C.1 C.2.1 hZ9 G.2.2 C.2.2.1 (C.2.2.2.1 _ uw_192) (fun _ h9 => h9) dX11_init_116 ?_
  refine gx_iconst C dX11_init_119 ?_
  refine gx_aload_n C hl dX11_init_120 rfl ?_
  refine gx_getFr C G rfl l81 (fo10_0 t82) uw_215 (fun _ h9 => h9) dX11_init_121 ?_
  obtain ⟨q94, eq94⟩ : ∃ q9 : Option Nat, q9 = V.2.2.2 o 0 := ⟨_, rfl⟩
  have h := h q94 eq94
  rw [← eq94]
  have v93 := G.f o 0
  rw [← eq94] at v93
  refine gx_iconst C dX11_init_124 ?_
  refine gx_bipush C dX11_init_125 (by decide) ?_
  obtain ⟨z95, hz95, tz95, h⟩ := h
  have lz95 := (v93 z95 hz95)
  obtain ⟨h96, h⟩ := h
  refine gx_copyT C G hl hml hT9 hz95 lz95 tz95 h96 uw_194 ⟨Nat.le_of_ble_eq_true rfl, Nat.le_of_ble_eq_true rfl⟩ (hw_le ad [] rfl (Nat.le_of_ble_eq_true rfl)) dX11_init_127 (fun H locs G => ?_)
  obtain ⟨S97, eS97⟩ : ∃ q9 : Me, q9 = tcS S92 z95 0 13 := ⟨_, rfl⟩
  have h := h S97 eS97
  rw [← eS97] at G
  refine gx_iconst C dX11_init_130 ?_
  refine gx_istore_n C hl dX11_init_131 (Nat.le_of_ble_eq_true rfl) (PL' := [some (.inr (some o)), some (.inl 0)]) rfl (fun ls hl => ?_)
  refine gx_iload_n C hl dX11_init_132 rfl ?_
  refine gx_bipush C dX11_init_133 (by decide) ?_
  refine gx_icmp_ge (tgt := 157) C (show rng 0 by decide) (show rng 8 by decide) dX11_init_135 (by decide) (fun c9 => absurd c9 (by decide)) (fun _ => ?_)
  refine gx_aload_n C hl dX11_init_138 rfl ?_
  refine gx_getFr C G rfl l81 (fo10_5 t82) uw_220 (fun _ h9 => h9) dX11_init_139 ?_
  obtain ⟨q99, eq99⟩ : ∃ q9 : Option Nat, q9 = V.2.2.2 o 5 := ⟨_, rfl⟩
  have h := h q99 eq99
  rw [← eq99]
  have v98 := G.f o 5
  rw [← eq99] at v98
  refine gx_iload_n C hl dX11_init_142 rfl ?_
  obtain ⟨U100, rfl⟩ : ∃ q : Vt, q = V := ⟨_, rfl⟩
  have h := h U100 rfl
  refine gx_new C G hl (okP_S (okv_R v80) (okP_S (okv_I (show rng 0 by decide)) okP_0)) (t := 7) rfl iu7 tyX8 tyX8_ok (df_7 ad) (by decide) uw_190 uw_197 uw_8 (Nat.le_of_ble_eq_true rfl) (Nat.le_of_ble_eq_true rfl) [.inl 0, .inr q99] rfl (okS_S (okv_I (show rng 0 by decide)) (okS_S (okv_R v98) okS_0)) dX11_init_143 (fun ad V S101 H eV eS hag1 hex1 hl G => ?_)
  have h := h V eV S101 eS
  have hex1 := exT.of hex1
  have nlU100 : U100.1 < V.1 := by rw [eV]; exact Nat.lt_succ_self _
  have ntU100 : V.2.1 U100.1 = 7 := by rw [eV]; simp [nV]
  have v102 := hex1.vl v80
  have l103 := hex1.lt l81
  have t104 := hex1.ty l81 t82
  have v105 := hex1.vl v98
  have l106 := hex1.lt lz95
  have t107 := hex1.ty lz95 tz95
  have hag := fun k hk => (hag1 k (hex.lt hk)).trans (hag k hk)
  have hex := hex.tr hex1
  refine gx_dupR C dX11_init_146 ?_
  refine gx_callICN (host := RX11) C G hl (okP_S (okv_R v102) (okP_S (okv_I (show rng 0 by decide)) okP_0)) hml (c_X8_init l D cy ad nlU100 ntU100 h) rfl uw_200 (by decide +kernel) uw_199 uw_8 rfl hd_X8_init ⟨Nat.le_of_ble_eq_true rfl, Nat.le_of_ble_eq_true rfl⟩ ⟨Nat.le_of_ble_eq_true rfl, Nat.le_of_ble_eq_true rfl⟩ [.inr (some U100.1), .inl 0, .inr q99] (okS_S (okv_R (vsome nlU100)) (okS_S (okv_I (show rng 0 by decide)) (okS_S (okv_R v105) okS_0))) rfl (Nat.le_of_ble_eq_true rfl) dX11_init_147 (fun ad V S108 H locs h hag1 hex1 hl G => ?_)
  have v109 := hex1.vl v102
  have l110 := hex1.lt l103
  have t111 := hex1.ty l103 t104
  have v112 := hex1.vl v105
  have v113 := hex1.vl (vsome nlU100)
  have l114 := hex1.lt nlU100
  have t115 := hex1.ty nlU100 ntU100
  have l116 := hex1.lt l106
  have t117 := hex1.ty l106 t107
  have hag := fun k hk => (hag1 k (hex.lt hk)).trans (hag k hk)
  have hex := hex.tr hex1
  obtain ⟨z118, hz118, tz118, h⟩ := h
  have lz118 := (v112 z118 hz118)
  obtain ⟨h119, h⟩ := h
  refine gx_aastS C G hz118 lz118 tz118 (show rng 0 by decide) (by decide) h119 rfl l114 t115 dX11_init_150 (fun H locs G => ?_)
  obtain ⟨S120, eS120⟩ : ∃ q9 : Me, q9 = sP S108 z118 (Int.toNat 0) (some U100.1) := ⟨_, rfl⟩
  have h := h S120 eS120
  rw [← eS120] at G
  refine gx_iinc C hl dX11_init_151 rfl (PL' := [some (.inr (some o)), some (.inl 1)]) rfl (fun ls hl => ?_)
  refine gx_goto (tgt := 132) C dX11_init_154 (by decide) ?_
  refine gx_iload_n C hl dX11_init_132 rfl ?_
  refine gx_bipush C dX11_init_133 (by decide) ?_
  refine gx_icmp_ge (tgt := 157) C (show rng 1 by decide) (show rng 8 by decide) dX11_init_135 (by decide) (fun c9 => absurd c9 (by decide)) (fun _ => ?_)
  refine gx_aload_n C hl dX11_init_138 rfl ?_
  refine gx_getFr C G rfl l110 (fo10_5 t111) uw_220 (fun _ h9 => h9) dX11_init_139 ?_
  obtain ⟨q122, eq122⟩ : ∃ q9 : Option Nat, q9 = V.2.2.2 o 5 := ⟨_, rfl⟩
  have h := h q122 eq122
  rw [← eq122]
  have v121 := G.f o 5
  rw [← eq122] at v121
  refine gx_iload_n C hl dX11_init_142 rfl ?_
  obtain ⟨U123, rfl⟩ : ∃ q : Vt, q = V := ⟨_, rfl⟩
  have h := h U123 rfl
  refine gx_new C G hl (okP_S (okv_R v109) (okP_S (okv_I (show rng 1 by decide)) okP_0)) (t := 7) rfl iu7 tyX8 tyX8_ok (df_7 ad) (by decide) uw_190 uw_197 uw_8 (Nat.le_of_ble_eq_true rfl) (Nat.le_of_ble_eq_true rfl) [.inl 1, .inr q122] rfl (okS_S (okv_I (show rng 1 by decide)) (okS_S (okv_R v121) okS_0)) dX11_init_143 (fun ad V S124 H eV eS hag1 hex1 hl G => ?_)
  have h := h V eV S124 eS
  have hex1 := exT.of hex1
  have nlU123 : U123.1 < V.1 := by rw [eV]; exact Nat.lt_succ_self _
  have ntU123 : V.2.1 U123.1 = 7 := by rw [eV]; simp [nV]
  have v125 := hex1.vl v109
  have l126 := hex1.lt l110
  have t127 := hex1.ty l110 t111
  have v128 := hex1.vl v121
  have l129 := hex1.lt l116
  have t130 := hex1.ty l116 t117
  have l131 := hex1.lt lz118
  have t132 := hex1.ty lz118 tz118
  have hag := fun k hk => (hag1 k (hex.lt hk)).trans (hag k hk)
  have hex := hex.tr hex1
  refine gx_dupR C dX11_init_146 ?_
  refine gx_callICN (host := RX11) C G hl (okP_S (okv_R v125) (okP_S (okv_I (show rng 1 by decide)) okP_0)) hml (c_X8_init l D cy ad nlU123 ntU123 h) rfl uw_200 (by decide +kernel) uw_199 uw_8 rfl hd_X8_init ⟨Nat.le_of_ble_eq_true rfl, Nat.le_of_ble_eq_true rfl⟩ ⟨Nat.le_of_ble_eq_true rfl, Nat.le_of_ble_eq_true rfl⟩ [.inr (some U123.1), .inl 1, .inr q122] (okS_S (okv_R (vsome nlU123)) (okS_S (okv_I (show rng 1 by decide)) (okS_S (okv_R v128) okS_0))) rfl (Nat.le_of_ble_eq_true rfl) dX11_init_147 (fun ad V S133 H locs h hag1 hex1 hl G => ?_)
  have v134 := hex1.vl v125
  have l135 := hex1.lt l126
  have t136 := hex1.ty l126 t127
  have v137 := hex1.vl v128
  have v138 := hex1.vl (vsome nlU123)
  have l139 := hex1.lt nlU123
  have t140 := hex1.ty nlU123 ntU123
  have l141 := hex1.lt l129
  have t142 := hex1.ty l129 t130
  have l143 := hex1.lt l131
  have t144 := hex1.ty l131 t132
  have hag := fun k hk => (hag1 k (hex.lt hk)).trans (hag k hk)
  have hex := hex.tr hex1
  obtain ⟨z145, hz145, tz145, h⟩ := h
  have lz145 := (v137 z145 hz145)
  obtain ⟨h146, h⟩ := h
  refine gx_aastS C G hz145 lz145 tz145 (show rng 1 by decide) (by decide) h146 rfl l139 t140 dX11_init_150 (fun H locs G => ?_)
  obtain ⟨S147, eS147⟩ : ∃ q9 : Me, q9 = sP S133 z145 (Int.toNat 1) (some U123.1) := ⟨_, rfl⟩
  have h := h S147 eS147
  rw [← eS147] at G
  refine gx_iinc C hl dX11_init_151 rfl (PL' := [some (.inr (some o)), some (.inl 2)]) rfl (fun ls hl => ?_)
  refine gx_goto (tgt := 132) C dX11_init_154 (by decide) ?_
  refine gx_iload_n C hl dX11_init_132 rfl ?_
  refine gx_bipush C dX11_init_133 (by decide) ?_
  refine gx_icmp_ge (tgt := 157) C (show rng 2 by decide) (show rng 8 by decide) dX11_init_135 (by decide) (fun c9 => absurd c9 (by decide)) (fun _ => ?_)
  refine gx_aload_n C hl dX11_init_138 rfl ?_
  refine gx_getFr C G rfl l135 (fo10_5 t136) uw_220 (fun _ h9 => h9) dX11_init_139 ?_
  obtain ⟨q149, eq149⟩ : ∃ q9 : Option Nat, q9 = V.2.2.2 o 5 := ⟨_, rfl⟩
  have h := h q149 eq149
  rw [← eq149]
  have v148 := G.f o 5
  rw [← eq149] at v148
  refine gx_iload_n C hl dX11_init_142 rfl ?_
  obtain ⟨U150, rfl⟩ : ∃ q : Vt, q = V := ⟨_, rfl⟩
  have h := h U150 rfl
  refine gx_new C G hl (okP_S (okv_R v134) (okP_S (okv_I (show rng 2 by decide)) okP_0)) (t := 7) rfl iu7 tyX8 tyX8_ok (df_7 ad) (by decide) uw_190 uw_197 uw_8 (Nat.le_of_ble_eq_true rfl) (Nat.le_of_ble_eq_true rfl) [.inl 2, .inr q149] rfl (okS_S (okv_I (show rng 2 by decide)) (okS_S (okv_R v148) okS_0)) dX11_init_143 (fun ad V S151 H eV eS hag1 hex1 hl G => ?_)
  have h := h V eV S151 eS
  have hex1 := exT.of hex1
  have nlU150 : U150.1 < V.1 := by rw [eV]; exact Nat.lt_succ_self _
  have ntU150 : V.2.1 U150.1 = 7 := by rw [eV]; simp [nV]
  have v152 := hex1.vl v134
  have l153 := hex1.lt l135
  have t154 := hex1.ty l135 t136
  have v155 := hex1.vl v148
  have l156 := hex1.lt l141
  have t157 := hex1.ty l141 t142
  have l158 := hex1.lt l143
  have t159 := hex1.ty l143 t144
  have l160 := hex1.lt lz145
  have t161 := hex1.ty lz145 tz145
  have hag := fun k hk => (hag1 k (hex.lt hk)).trans (hag k hk)
  have hex := hex.tr hex1
  refine gx_dupR C dX11_init_146 ?_
  refine gx_callICN (host := RX11) C G hl (okP_S (okv_R v152) (okP_S (okv_I (show rng 2 by decide)) okP_0)) hml (c_X8_init l D cy ad nlU150 ntU150 h) rfl uw_200 (by decide +kernel) uw_199 uw_8 rfl hd_X8_init ⟨Nat.le_of_ble_eq_true rfl, Nat.le_of_ble_eq_true rfl⟩ ⟨Nat.le_of_ble_eq_true rfl, Nat.le_of_ble_eq_true rfl⟩ [.inr (some U150.1), .inl 2, .inr q149] (okS_S (okv_R (vsome nlU150)) (okS_S (okv_I (show rng 2 by decide)) (okS_S (okv_R v155) okS_0))) rfl (Nat.le_of_ble_eq_true rfl) dX11_init_147 (fun ad V S162 H locs h hag1 hex1 hl G => ?_)
  have v163 := hex1.vl v152
  have l164 := hex1.lt l153
  have t165 := hex1.ty l153 t154
  have v166 := hex1.vl v155
  have v167 := hex1.vl (vsome nlU150)
  have l168 := hex1.lt nlU150
  have t169 := hex1.ty nlU150 ntU150
  have l170 := hex1.lt l156
  have t171 := hex1.ty l156 t157
  have l172 := hex1.lt l158
  have t173 := hex1.ty l158 t159
  have l174 := hex1.lt l160
  have t175 := hex1.ty l160 t161
  have hag := fun k hk => (hag1 k (hex.lt hk)).trans (hag k hk)
  have hex := hex.tr hex1
  obtain ⟨z176, hz176, tz176, h⟩ := h
  have lz176 := (v166 z176 hz176)
  obtain ⟨h177, h⟩ := h
  refine gx_aastS C G hz176 lz176 tz176 (show rng 2 by decide) (by decide) h177 rfl l168 t169 dX11_init_150 (fun H locs G => ?_)
  obtain ⟨S178, eS178⟩ : ∃ q9 : Me, q9 = sP S162 z176 (Int.toNat 2) (some U150.1) := ⟨_, rfl⟩
  have h := h S178 eS178
  rw [← eS178] at G
  refine gx_iinc C hl dX11_init_151 rfl (PL' := [some (.inr (some o)), some (.inl 3)]) rfl (fun ls hl => ?_)
  refine gx_goto (tgt := 132) C dX11_init_154 (by decide) ?_
  refine gx_iload_n C hl dX11_init_132 rfl ?_
  refine gx_bipush C dX11_init_133 (by decide) ?_
  refine gx_icmp_ge (tgt := 157) C (show rng 3 by decide) (show rng 8 by decide) dX11_init_135 (by decide) (fun c9 => absurd c9 (by decide)) (fun _ => ?_)
  refine gx_aload_n C hl dX11_init_138 rfl ?_
  refine gx_getFr C G rfl l164 (fo10_5 t165) uw_220 (fun _ h9 => h9) dX11_init_139 ?_
  obtain ⟨q180, eq180⟩ : ∃ q9 : Option Nat, q9 = V.2.2.2 o 5 := ⟨_, rfl⟩
  have h := h q180 eq180
  rw [← eq180]
  have v179 := G.f o 5
  rw [← eq180] at v179
  refine gx_iload_n C hl dX11_init_142 rfl ?_
  obtain ⟨U181, rfl⟩ : ∃ q : Vt, q = V := ⟨_, rfl⟩
  have h := h U181 rfl
  refine gx_new C G hl (okP_S (okv_R v163) (okP_S (okv_I (show rng 3 by decide)) okP_0)) (t := 7) rfl iu7 tyX8 tyX8_ok (df_7 ad) (by decide) uw_190 uw_197 uw_8 (Nat.le_of_ble_eq_true rfl) (Nat.le_of_ble_eq_true rfl) [.inl 3, .inr q180] rfl (okS_S (okv_I (show rng 3 by decide)) (okS_S (okv_R v179) okS_0)) dX11_init_143 (fun ad V S182 H eV eS hag1 hex1 hl G => ?_)
  have h := h V eV S182 eS
  have hex1 := exT.of hex1
  have nlU181 : U181.1 < V.1 := by rw [eV]; exact Nat.lt_succ_self _
  have ntU181 : V.2.1 U181.1 = 7 := by rw [eV]; simp [nV]
  have v183 := hex1.vl v163
  have l184 := hex1.lt l164
  have t185 := hex1.ty l164 t165
  have v186 := hex1.vl v179
  have l187 := hex1.lt l170
  have t188 := hex1.ty l170 t171
  have l189 := hex1.lt l172
  have t190 := hex1.ty l172 t173
  have l191 := hex1.lt l174
  have t192 := hex1.ty l174 t175
  have l193 := hex1.lt lz176
  have t194 := hex1.ty lz176 tz176
  have hag := fun k hk => (hag1 k (hex.lt hk)).trans (hag k hk)
  have hex := hex.tr hex1
  refine gx_dupR C dX11_init_146 ?_
  refine gx_callICN (host := RX11) C G hl (okP_S (okv_R v183) (okP_S (okv_I (show rng 3 by decide)) okP_0)) hml (c_X8_init l D cy ad nlU181 ntU181 h) rfl uw_200 (by decide +kernel) uw_199 uw_8 rfl hd_X8_init ⟨Nat.le_of_ble_eq_true rfl, Nat.le_of_ble_eq_true rfl⟩ ⟨Nat.le_of_ble_eq_true rfl, Nat.le_of_ble_eq_true rfl⟩ [.inr (some U181.1), .inl 3, .inr q180] (okS_S (okv_R (vsome nlU181)) (okS_S (okv_I (show rng 3 by decide)) (okS_S (okv_R v186) okS_0))) rfl (Nat.le_of_ble_eq_true rfl) dX11_init_147 (fun ad V S195 H locs h hag1 hex1 hl G => ?_)
  have v196 := hex1.vl v183
  have l197 := hex1.lt l184
  have t198 := hex1.ty l184 t185
  have v199 := hex1.vl v186
  have v200 := hex1.vl (vsome nlU181)
  have l201 := hex1.lt nlU181
  have t202 := hex1.ty nlU181 ntU181
  have l203 := hex1.lt l187
  have t204 := hex1.ty l187 t188
  have l205 := hex1.lt l189
  have t206 := hex1.ty l189 t190
  have l207 := hex1.lt l191
  have t208 := hex1.ty l191 t192
  have l209 := hex1.lt l193
  have t210 := hex1.ty l193 t194
  have hag := fun k hk => (hag1 k (hex.lt hk)).trans (hag k hk)
  have hex := hex.tr hex1
  obtain ⟨z211, hz211, tz211, h⟩ := h
  have lz211 := (v199 z211 hz211)
  obtain ⟨h212, h⟩ := h
  refine gx_aastS C G hz211 lz211 tz211 (show rng 3 by decide) (by decide) h212 rfl l201 t202 dX11_init_150 (fun H locs G => ?_)
  obtain ⟨S213, eS213⟩ : ∃ q9 : Me, q9 = sP S195 z211 (Int.toNat 3) (some U181.1) := ⟨_, rfl⟩
  have h := h S213 eS213
  rw [← eS213] at G
  refine gx_iinc C hl dX11_init_151 rfl (PL' := [some (.inr (some o)), some (.inl 4)]) rfl (fun ls hl => ?_)
  refine gx_goto (tgt := 132) C dX11_init_154 (by decide) ?_
  refine gx_iload_n C hl dX11_init_132 rfl ?_
  refine gx_bipush C dX11_init_133 (by decide) ?_
  refine gx_icmp_ge (tgt := 157) C (show rng 4 by decide) (show rng 8 by decide) dX11_init_135 (by decide) (fun c9 => absurd c9 (by decide)) (fun _ => ?_)
  refine gx_aload_n C hl dX11_init_138 rfl ?_
  refine gx_getFr C G rfl l197 (fo10_5 t198) uw_220 (fun _ h9 => h9) dX11_init_139 ?_
  obtain ⟨q215, eq215⟩ : ∃ q9 : Option Nat, q9 = V.2.2.2 o 5 := ⟨_, rfl⟩
  have h := h q215 eq215
  rw [← eq215]
  have v214 := G.f o 5
  rw [← eq215] at v214
  refine gx_iload_n C hl dX11_init_142 rfl ?_
  obtain ⟨U216, rfl⟩ : ∃ q : Vt, q = V := ⟨_, rfl⟩
  have h := h U216 rfl
  refine gx_new C G hl (okP_S (okv_R v196) (okP_S (okv_I (show rng 4 by decide)) okP_0)) (t := 7) rfl iu7 tyX8 tyX8_ok (df_7 ad) (by decide) uw_190 uw_197 uw_8 (Nat.le_of_ble_eq_true rfl) (Nat.le_of_ble_eq_true rfl) [.inl 4, .inr q215] rfl (okS_S (okv_I (show rng 4 by decide)) (okS_S (okv_R v214) okS_0)) dX11_init_143 (fun ad V S217 H eV eS hag1 hex1 hl G => ?_)
  have h := h V eV S217 eS
  have hex1 := exT.of hex1
  have nlU216 : U216.1 < V.1 := by rw [eV]; exact Nat.lt_succ_self _
  have ntU216 : V.2.1 U216.1 = 7 := by rw [eV]; simp [nV]
  have v218 := hex1.vl v196
  have l219 := hex1.lt l197
  have t220 := hex1.ty l197 t198
  have v221 := hex1.vl v214
  have l222 := hex1.lt l203
  have t223 := hex1.ty l203 t204
  have l224 := hex1.lt l205
  have t225 := hex1.ty l205 t206
  have l226 := hex1.lt l207
  have t227 := hex1.ty l207 t208
  have l228 := hex1.lt l209
  have t229 := hex1.ty l209 t210
  have l230 := hex1.lt lz211
  have t231 := hex1.ty lz211 tz211
  have hag := fun k hk => (hag1 k (hex.lt hk)).trans (hag k hk)
  have hex := hex.tr hex1
  refine gx_dupR C dX11_init_146 ?_
  refine gx_callICN (host := RX11) C G hl (okP_S (okv_R v218) (okP_S (okv_I (show rng 4 by decide)) okP_0)) hml (c_X8_init l D cy ad nlU216 ntU216 h) rfl uw_200 (by decide +kernel) uw_199 uw_8 rfl hd_X8_init ⟨Nat.le_of_ble_eq_true rfl, Nat.le_of_ble_eq_true rfl⟩ ⟨Nat.le_of_ble_eq_true rfl, Nat.le_of_ble_eq_true rfl⟩ [.inr (some U216.1), .inl 4, .inr q215] (okS_S (okv_R (vsome nlU216)) (okS_S (okv_I (show rng 4 by decide)) (okS_S (okv_R v221) okS_0))) rfl (Nat.le_of_ble_eq_true rfl) dX11_init_147 (fun ad V S232 H locs h hag1 hex1 hl G => ?_)
  have v233 := hex1.vl v218
  have l234 := hex1.lt l219
  have t235 := hex1.ty l219 t220
  have v236 := hex1.vl v221
  have v237 := hex1.vl (vsome nlU216)
  have l238 := hex1.lt nlU216
  have t239 := hex1.ty nlU216 ntU216
  have l240 := hex1.lt l222
  have t241 := hex1.ty l222 t223
  have l242 := hex1.lt l224
  have t243 := hex1.ty l224 t225
  have l244 := hex1.lt l226
  have t245 := hex1.ty l226 t227
  have l246 := hex1.lt l228
  have t247 := hex1.ty l228 t229
  have l248 := hex1.lt l230
  have t249 := hex1.ty l230 t231
  have hag := fun k hk => (hag1 k (hex.lt hk)).trans (hag k hk)
  have hex := hex.tr hex1
  obtain ⟨z250, hz250, tz250, h⟩ := h
  have lz250 := (v236 z250 hz250)
  obtain ⟨h251, h⟩ := h
  refine gx_aastS C G hz250 lz250 tz250 (show rng 4 by decide) (by decide) h251 rfl l238 t239 dX11_init_150 (fun H locs G => ?_)
  obtain ⟨S252, eS252⟩ : ∃ q9 : Me, q9 = sP S232 z250 (Int.toNat 4) (some U216.1) := ⟨_, rfl⟩
  have h := h S252 eS252
  rw [← eS252] at G
  refine gx_iinc C hl dX11_init_151 rfl (PL' := [some (.inr (some o)), some (.inl 5)]) rfl (fun ls hl => ?_)
  refine gx_goto (tgt := 132) C dX11_init_154 (by decide) ?_
  refine gx_iload_n C hl dX11_init_132 rfl ?_
  refine gx_bipush C dX11_init_133 (by decide) ?_
  refine gx_icmp_ge (tgt := 157) C (show rng 5 by decide) (show rng 8 by decide) dX11_init_135 (by decide) (fun c9 => absurd c9 (by decide)) (fun _ => ?_)
  refine gx_aload_n C hl dX11_init_138 rfl ?_
  refine gx_getFr C G rfl l234 (fo10_5 t235) uw_220 (fun _ h9 => h9) dX11_init_139 ?_
  obtain ⟨q254, eq254⟩ : ∃ q9 : Option Nat, q9 = V.2.2.2 o 5 := ⟨_, rfl⟩
  have h := h q254 eq254
  rw [← eq254]
  have v253 := G.f o 5
  rw [← eq254] at v253
  refine gx_iload_n C hl dX11_init_142 rfl ?_
  obtain ⟨U255, rfl⟩ : ∃ q : Vt, q = V := ⟨_, rfl⟩
  have h := h U255 rfl
  refine gx_new C G hl (okP_S (okv_R v233) (okP_S (okv_I (show rng 5 by decide)) okP_0)) (t := 7) rfl iu7 tyX8 tyX8_ok (df_7 ad) (by decide) uw_190 uw_197 uw_8 (Nat.le_of_ble_eq_true rfl) (Nat.le_of_ble_eq_true rfl) [.inl 5, .inr q254] rfl (okS_S (okv_I (show rng 5 by decide)) (okS_S (okv_R v253) okS_0)) dX11_init_143 (fun ad V S256 H eV eS hag1 hex1 hl G => ?_)
  have h := h V eV S256 eS
  have hex1 := exT.of hex1
  have nlU255 : U255.1 < V.1 := by rw [eV]; exact Nat.lt_succ_self _
  have ntU255 : V.2.1 U255.1 = 7 := by rw [eV]; simp [nV]
  have v257 := hex1.vl v233
  have l258 := hex1.lt l234
  have t259 := hex1.ty l234 t235
  have v260 := hex1.vl v253
  have l261 := hex1.lt l240
  have t262 := hex1.ty l240 t241
  have l263 := hex1.lt l242
  have t264 := hex1.ty l242 t243
  have l265 := hex1.lt l244
  have t266 := hex1.ty l244 t245
  have l267 := hex1.lt l246
  have t268 := hex1.ty l246 t247
  have l269 := hex1.lt l248
  have t270 := hex1.ty l248 t249
  have l271 := hex1.lt lz250
  have t272 := hex1.ty lz250 tz250
  have hag := fun k hk => (hag1 k (hex.lt hk)).trans (hag k hk)
  have hex := hex.tr hex1
  refine gx_dupR C dX11_init_146 ?_
  refine gx_callICN (host := RX11) C G hl (okP_S (okv_R v257) (okP_S (okv_I (show rng 5 by decide)) okP_0)) hml (c_X8_init l D cy ad nlU255 ntU255 h) rfl uw_200 (by decide +kernel) uw_199 uw_8 rfl hd_X8_init ⟨Nat.le_of_ble_eq_true rfl, Nat.le_of_ble_eq_true rfl⟩ ⟨Nat.le_of_ble_eq_true rfl, Nat.le_of_ble_eq_true rfl⟩ [.inr (some U255.1), .inl 5, .inr q254] (okS_S (okv_R (vsome nlU255)) (okS_S (okv_I (show rng 5 by decide)) (okS_S (okv_R v260) okS_0))) rfl (Nat.le_of_ble_eq_true rfl) dX11_init_147 (fun ad V S273 H locs h hag1 hex1 hl G => ?_)
  have v274 := hex1.vl v257
  have l275 := hex1.lt l258
  have t276 := hex1.ty l258 t259
  have v277 := hex1.vl v260
  have v278 := hex1.vl (vsome nlU255)
  have l279 := hex1.lt nlU255
  have t280 := hex1.ty nlU255 ntU255
  have l281 := hex1.lt l261
  have t282 := hex1.ty l261 t262
  have l283 := hex1.lt l263
  have t284 := hex1.ty l263 t264
  have l285 := hex1.lt l265
  have t286 := hex1.ty l265 t266
  have l287 := hex1.lt l267
  have t288 := hex1.ty l267 t268
  have l289 := hex1.lt l269
  have t290 := hex1.ty l269 t270
  have l291 := hex1.lt l271
  have t292 := hex1.ty l271 t272
  have hag := fun k hk => (hag1 k (hex.lt hk)).trans (hag k hk)
  have hex := hex.tr hex1
  obtain ⟨z293, hz293, tz293, h⟩ := h
  have lz293 := (v277 z293 hz293)
  obtain ⟨h294, h⟩ := h
  refine gx_aastS C G hz293 lz293 tz293 (show rng 5 by decide) (by decide) h294 rfl l279 t280 dX11_init_150 (fun H locs G => ?_)
  obtain ⟨S295, eS295⟩ : ∃ q9 : Me, q9 = sP S273 z293 (Int.toNat 5) (some U255.1) := ⟨_, rfl⟩
  have h := h S295 eS295
  rw [← eS295] at G
  refine gx_iinc C hl dX11_init_151 rfl (PL' := [some (.inr (some o)), some (.inl 6)]) rfl (fun ls hl => ?_)
  refine gx_goto (tgt := 132) C dX11_init_154 (by decide) ?_
  refine gx_iload_n C hl dX11_init_132 rfl ?_
  refine gx_bipush C dX11_init_133 (by decide) ?_
  refine gx_icmp_ge (tgt := 157) C (show rng 6 by decide) (show rng 8 by decide) dX11_init_135 (by decide) (fun c9 => absurd c9 (by decide)) (fun _ => ?_)
  refine gx_aload_n C hl dX11_init_138 rfl ?_
  refine gx_getFr C G rfl l275 (fo10_5 t276) uw_220 (fun _ h9 => h9) dX11_init_139 ?_
  obtain ⟨q297, eq297⟩ : ∃ q9 : Option Nat, q9 = V.2.2.2 o 5 := ⟨_, rfl⟩
  have h := h q297 eq297
  rw [← eq297]
  have v296 := G.f o 5
  rw [← eq297] at v296
  refine gx_iload_n C hl dX11_init_142 rfl ?_
  obtain ⟨U298, rfl⟩ : ∃ q : Vt, q = V := ⟨_, rfl⟩
  have h := h U298 rfl
  refine gx_new C G hl (okP_S (okv_R v274) (okP_S (okv_I (show rng 6 by decide)) okP_0)) (t := 7) rfl iu7 tyX8 tyX8_ok (df_7 ad) (by decide) uw_190 uw_197 uw_8 (Nat.le_of_ble_eq_true rfl) (Nat.le_of_ble_eq_true rfl) [.inl 6, .inr q297] rfl (okS_S (okv_I (show rng 6 by decide)) (okS_S (okv_R v296) okS_0)) dX11_init_143 (fun ad V S299 H eV eS hag1 hex1 hl G => ?_)
  have h := h V eV S299 eS
  have hex1 := exT.of hex1
  have nlU298 : U298.1 < V.1 := by rw [eV]; exact Nat.lt_succ_self _
  have ntU298 : V.2.1 U298.1 = 7 := by rw [eV]; simp [nV]
  have v300 := hex1.vl v274
  have l301 := hex1.lt l275
  have t302 := hex1.ty l275 t276
  have v303 := hex1.vl v296
  have l304 := hex1.lt l281
  have t305 := hex1.ty l281 t282
  have l306 := hex1.lt l283
  have t307 := hex1.ty l283 t284
  have l308 := hex1.lt l285
  have t309 := hex1.ty l285 t286
  have l310 := hex1.lt l287
  have t311 := hex1.ty l287 t288
  have l312 := hex1.lt l289
  have t313 := hex1.ty l289 t290
  have l314 := hex1.lt l291
  have t315 := hex1.ty l291 t292
  have l316 := hex1.lt lz293
  have t317 := hex1.ty lz293 tz293
  have hag := fun k hk => (hag1 k (hex.lt hk)).trans (hag k hk)
  have hex := hex.tr hex1
  refine gx_dupR C dX11_init_146 ?_
  refine gx_callICN (host := RX11) C G hl (okP_S (okv_R v300) (okP_S (okv_I (show rng 6 by decide)) okP_0)) hml (c_X8_init l D cy ad nlU298 ntU298 h) rfl uw_200 (by decide +kernel) uw_199 uw_8 rfl hd_X8_init ⟨Nat.le_of_ble_eq_true rfl, Nat.le_of_ble_eq_true rfl⟩ ⟨Nat.le_of_ble_eq_true rfl, Nat.le_of_ble_eq_true rfl⟩ [.inr (some U298.1), .inl 6, .inr q297] (okS_S (okv_R (vsome nlU298)) (okS_S (okv_I (show rng 6 by decide)) (okS_S (okv_R v303) okS_0))) rfl (Nat.le_of_ble_eq_true rfl) dX11_init_147 (fun ad V S318 H locs h hag1 hex1 hl G => ?_)
  have v319 := hex1.vl v300
  have l320 := hex1.lt l301
  have t321 := hex1.ty l301 t302
  have v322 := hex1.vl v303
  have v323 := hex1.vl (vsome nlU298)
  have l324 := hex1.lt nlU298
  have t325 := hex1.ty nlU298 ntU298
  have l326 := hex1.lt l304
  have t327 := hex1.ty l304 t305
  have l328 := hex1.lt l306
  have t329 := hex1.ty l306 t307
  have l330 := hex1.lt l308
  have t331 := hex1.ty l308 t309
  have l332 := hex1.lt l310
  have t333 := hex1.ty l310 t311
  have l334 := hex1.lt l312
  have t335 := hex1.ty l312 t313
  have l336 := hex1.lt l314
  have t337 := hex1.ty l314 t315
  have l338 := hex1.lt l316
  have t339 := hex1.ty l316 t317
  have hag := fun k hk => (hag1 k (hex.lt hk)).trans (hag k hk)
  have hex := hex.tr hex1
  obtain ⟨z340, hz340, tz340, h⟩ := h
  have lz340 := (v322 z340 hz340)
  obtain ⟨h341, h⟩ := h
  refine gx_aastS C G hz340 lz340 tz340 (show rng 6 by decide) (by decide) h341 rfl l324 t325 dX11_init_150 (fun H locs G => ?_)
  obtain ⟨S342, eS342⟩ : ∃ q9 : Me, q9 = sP S318 z340 (Int.toNat 6) (some U298.1) := ⟨_, rfl⟩
  have h := h S342 eS342
  rw [← eS342] at G
  refine gx_iinc C hl dX11_init_151 rfl (PL' := [some (.inr (some o)), some (.inl 7)]) rfl (fun ls hl => ?_)
  refine gx_goto (tgt := 132) C dX11_init_154 (by decide) ?_
  refine gx_iload_n C hl dX11_init_132 rfl ?_
  refine gx_bipush C dX11_init_133 (by decide) ?_
  refine gx_icmp_ge (tgt := 157) C (show rng 7 by decide) (show rng 8 by decide) dX11_init_135 (by decide) (fun c9 => absurd c9 (by decide)) (fun _ => ?_)
  refine gx_aload_n C hl dX11_init_138 rfl ?_
  refine gx_getFr C G rfl l320 (fo10_5 t321) uw_220 (fun _ h9 => h9) dX11_init_139 ?_
  obtain ⟨q344, eq344⟩ : ∃ q9 : Option Nat, q9 = V.2.2.2 o 5 := ⟨_, rfl⟩
  have h := h q344 eq344
  rw [← eq344]
  have v343 := G.f o 5
  rw [← eq344] at v343
  refine gx_iload_n C hl dX11_init_142 rfl ?_
  obtain ⟨U345, rfl⟩ : ∃ q : Vt, q = V := ⟨_, rfl⟩
  have h := h U345 rfl
  refine gx_new C G hl (okP_S (okv_R v319) (okP_S (okv_I (show rng 7 by decide)) okP_0)) (t := 7) rfl iu7 tyX8 tyX8_ok (df_7 ad) (by decide) uw_190 uw_197 uw_8 (Nat.le_of_ble_eq_true rfl) (Nat.le_of_ble_eq_true rfl) [.inl 7, .inr q344] rfl (okS_S (okv_I (show rng 7 by decide)) (okS_S (okv_R v343) okS_0)) dX11_init_143 (fun ad V S346 H eV eS hag1 hex1 hl G => ?_)
  have h := h V eV S346 eS
  have hex1 := exT.of hex1
  have nlU345 : U345.1 < V.1 := by rw [eV]; exact Nat.lt_succ_self _
  have ntU345 : V.2.1 U345.1 = 7 := by rw [eV]; simp [nV]
  have v347 := hex1.vl v319
  have l348 := hex1.lt l320
  have t349 := hex1.ty l320 t321
  have v350 := hex1.vl v343
  have l351 := hex1.lt l326
  have t352 := hex1.ty l326 t327
  have l353 := hex1.lt l328
  have t354 := hex1.ty l328 t329
  have l355 := hex1.lt l330
  have t356 := hex1.ty l330 t331
  have l357 := hex1.lt l332
  have t358 := hex1.ty l332 t333
  have l359 := hex1.lt l334
  have t360 := hex1.ty l334 t335
  have l361 := hex1.lt l336
  have t362 := hex1.ty l336 t337
  have l363 := hex1.lt l338
  have t364 := hex1.ty l338 t339
  have l365 := hex1.lt lz340
  have t366 := hex1.ty lz340 tz340
  have hag := fun k hk => (hag1 k (hex.lt hk)).trans (hag k hk)
  have hex := hex.tr hex1
  refine gx_dupR C dX11_init_146 ?_
  refine gx_callICN (host := RX11) C G hl (okP_S (okv_R v347) (okP_S (okv_I (show rng 7 by decide)) okP_0)) hml (c_X8_init l D cy ad nlU345 ntU345 h) rfl uw_200 (by decide +kernel) uw_199 uw_8 rfl hd_X8_init ⟨Nat.le_of_ble_eq_true rfl, Nat.le_of_ble_eq_true rfl⟩ ⟨Nat.le_of_ble_eq_true rfl, Nat.le_of_ble_eq_true rfl⟩ [.inr (some U345.1), .inl 7, .inr q344] (okS_S (okv_R (vsome nlU345)) (okS_S (okv_I (show rng 7 by decide)) (okS_S (okv_R v350) okS_0))) rfl (Nat.le_of_ble_eq_true rfl) dX11_init_147 (fun ad V S367 H locs h hag1 hex1 hl G => ?_)
  have v368 := hex1.vl v347
  have l369 := hex1.lt l348
  have t370 := hex1.ty l348 t349
  have v371 := hex1.vl v350
  have v372 := hex1.vl (vsome nlU345)
  have l373 := hex1.lt nlU345
  have t374 := hex1.ty nlU345 ntU345
  have l375 := hex1.lt l351
  have t376 := hex1.ty l351 t352
  have l377 := hex1.lt l353
  have t378 := hex1.ty l353 t354
  have l379 := hex1.lt l355
  have t380 := hex1.ty l355 t356
  have l381 := hex1.lt l357
  have t382 := hex1.ty l357 t358
  have l383 := hex1.lt l359
  have t384 := hex1.ty l359 t360
  have l385 := hex1.lt l361
  have t386 := hex1.ty l361 t362
  have l387 := hex1.lt l363
  have t388 := hex1.ty l363 t364
  have l389 := hex1.lt l365
  have t390 := hex1.ty l365 t366
  have hag := fun k hk => (hag1 k (hex.lt hk)).trans (hag k hk)
  have hex := hex.tr hex1
  obtain ⟨z391, hz391, tz391, h⟩ := h
  have lz391 := (v371 z391 hz391)
  obtain ⟨h392, h⟩ := h
  refine gx_aastS C G hz391 lz391 tz391 (show rng 7 by decide) (by decide) h392 rfl l373 t374 dX11_init_150 (fun H locs G => ?_)
  obtain ⟨S393, eS393⟩ : ∃ q9 : Me, q9 = sP S367 z391 (Int.toNat 7) (some U345.1) := ⟨_, rfl⟩
  have h := h S393 eS393
  rw [← eS393] at G
  refine gx_iinc C hl dX11_init_151 rfl (PL' := [some (.inr (some o)), some (.inl 8)]) rfl (fun ls hl => ?_)
  refine gx_goto (tgt := 132) C dX11_init_154 (by decide) ?_
  refine gx_iload_n C hl dX11_init_132 rfl ?_
  refine gx_bipush C dX11_init_133 (by decide) ?_
  refine gx_icmp_ge (tgt := 157) C (show rng 8 by decide) (show rng 8 by decide) dX11_init_135 (by decide) (fun _ => ?_) (fun c9 => absurd (by decide) c9)
  exact gx_vretC C G hag hex hret h dX11_init_157 ⟨Nat.le_of_ble_eq_true rfl, Nat.le_of_ble_eq_true rfl⟩
