/-! ===== constructors: final references are put ===== -/
def fV (V : Vt) (o j w : Nat) : Vt := (V.1, V.2.1, V.2.2.1, fun a k => if a = o ∧ k = j then some w else V.2.2.2 a k)
def exT (V V' : Vt) : Prop := V.1 ≤ V'.1 ∧ ∀ a, a < V.1 → V'.2.1 a = V.2.1 a ∧ V'.2.2.1 a = V.2.2.1 a
theorem exT.rf (V : Vt) : exT V V := ⟨Nat.le_refl _, fun _ _ => ⟨rfl, rfl⟩⟩
theorem exT.of {V V' : Vt} (h : exV V V') : exT V V' := ⟨h.1, fun a ha => ⟨(h.2 a ha).1, (h.2 a ha).2.1⟩⟩
theorem exT.fv (V : Vt) (o j w : Nat) : exT V (fV V o j w) := ⟨Nat.le_refl _, fun _ _ => ⟨rfl, rfl⟩⟩
theorem exT.tr {V V' V'' : Vt} (h : exT V V') (h' : exT V' V'') : exT V V'' := ⟨Nat.le_trans h.1 h'.1, fun a ha => by
  obtain ⟨a1, a2⟩ := h.2 a ha
  obtain ⟨b1, b2⟩ := h'.2 a (Nat.lt_of_lt_of_le ha h.1)
  exact ⟨b1.trans a1, b2.trans a2⟩⟩
theorem exT.lt {V V' : Vt} (h : exT V V') {z : Nat} (hz : z < V.1) : z < V'.1 := Nat.lt_of_lt_of_le hz h.1
theorem exT.vl {V V' : Vt} (h : exT V V') {r : Option Nat} (hr : ∀ z, r = some z → z < V.1) : ∀ z, r = some z → z < V'.1 := fun z hz => h.lt (hr z hz)
theorem exT.ty {V V' : Vt} (h : exT V V') {z c : Nat} (hz : z < V.1) (ht : V.2.1 z = c) : V'.2.1 z = c := (h.2 z hz).1.trans ht
theorem exT.ln {V V' : Vt} (h : exT V V') {z c : Nat} (hz : z < V.1) (ht : V.2.2.1 z = c) : V'.2.2.1 z = c := (h.2 z hz).2.trans ht
section GK
variable {p : Program} {l : Launch} {e : Env} {R : Room} {s : State} {m : MethodId} {args : Array Value} {below : List Frame} {meth : Method} {c : Code} {H : Heap} {locs : List Loc} {cells slots : Nat} {Q : State → Prop} {cc : ByteArray} {pc : Nat} {ls : Array Slot} {rest : List Value} {D : va_G} {cy : ClassId × ClassId × ClassId × ClassId} {A : Nat → Prop} {ad : Nat → Nat} {V : Vt} {S : Me} {own : String} {PL : List (Option (Int ⊕ Option Nat))}
theorem wo_fV {z j w : Nat} {e9 : va_E} (hzl : z < V.1) (he : cf cy ad (V.2.1 z) (V.2.2.1 z) (S.1 z) (S.2 z) (fun k => if k = j then some w else V.2.2.2 z k) = e9) : (wo cy ad V S).set z (ad z, e9) = wo cy ad (fV V z j w) S := by
  apply List.ext_getElem?
  intro b
  rw [List.getElem?_set]
  have hF : ∀ b, (fV V z j w).2.2.2 b = if b = z then (fun k => if k = j then some w else V.2.2.2 z k) else V.2.2.2 b := by
    intro b
    funext k
    by_cases hb : b = z
    · subst hb; simp [fV]
    · simp [fV, hb]
  by_cases hb : z = b
  · subst hb
    have h2 : (wo cy ad (fV V z j w) S)[z]? = some (ad z, cf cy ad (V.2.1 z) (V.2.2.1 z) (S.1 z) (S.2 z) ((fV V z j w).2.2.2 z)) := wo_at (V := fV V z j w) hzl
    rw [if_pos rfl, if_pos (by simp [wo, hzl]), h2, hF, if_pos rfl, he]
  · rw [if_neg hb]
    rcases Nat.lt_or_ge b V.1 with hl | hl
    · have h2 : (wo cy ad (fV V z j w) S)[b]? = some (ad b, cf cy ad (V.2.1 b) (V.2.2.1 b) (S.1 b) (S.2 b) ((fV V z j w).2.2.2 b)) := wo_at (V := fV V z j w) hl
      rw [wo_at hl, h2, hF, if_neg (Ne.symm hb)]
    · have h3 : (wo cy ad V S)[b]? = none := by simp [wo, hl]
      have h4 : (wo cy ad (fV V z j w) S)[b]? = none := by simp [wo, fV, hl]
      rw [h3, h4]
theorem fl_setF {i : Nat → Int} {p9 f f' : Nat → Option Nat} {t k kd j : Nat} {v : Value} (hk : (fl t)[k]? = some (kd, j)) (hv : fv ad i p9 f' (kd, j) = v) (hf : ∀ j', j' ≠ j → f' j' = f j') : ((fl t).map (fv ad i p9 f)).set k v = (fl t).map (fv ad i p9 f') := by
  apply List.ext_getElem?
  intro b
  rw [List.getElem?_set]
  by_cases hb : k = b
  · subst hb
    have hkl : k < (fl t).length := (List.getElem?_eq_some_iff.mp hk).1
    rw [if_pos rfl, List.getElem?_map, hk, if_pos (by simpa using hkl)]
    simp [hv]
  · rw [if_neg hb, List.getElem?_map, List.getElem?_map]
    cases hq : (fl t)[b]? with
    | none => rfl
    | some q =>
      obtain ⟨kq, jq⟩ := q
      have hne : jq ≠ j := by
        intro e9
        subst e9
        have h1 : ((fl t).map (·.2))[b]? = some jq := by rw [List.getElem?_map, hq]; rfl
        have h2 : ((fl t).map (·.2))[k]? = some jq := by rw [List.getElem?_map, hk]; rfl
        exact hb (nd_inj (fl_nd t) h2 h1)
      simp only [Option.map_some, fv]
      split <;> simp only [hf jq hne]
theorem gx_putF (C : Cx p s m args meth c cc own D cy A) (hmn : meth.name = "<init>") (G : Gy D cy A s.heap ad V S H locs) {r : Option Nat} {z : Nat} (hz : r = some z) (hzl : z < V.1) {j : Nat} {nm ds : String} {ty : FieldType} (hF : ∃ k, FO (V.2.1 z) k 2 j own nm ds true ty) (hty : (∃ n, ty = .object n) ∨ ∃ t, ty = .array t) {x : Option Nat} {w : Nat} (hx : x = some w) (hw : w < V.1) {index : Nat} (hl : Cond.fieldLink own index own nm ds ∈ UW) (hdg : decode cc pc = .ok (.putfield index, 3))
    (kk : ∀ (V' : Vt) (H1 : Heap) (locs1 : List Loc), V' = fV V z j w → exT V V' → Gy D cy A s.heap ad V' S H1 locs1 → W p l e R s m args below meth c H1 locs1 cells slots Q (F0 m (pc + 3) ls rest)) : W p l e R s m args below meth c H locs cells slots Q (F0 m pc ls (vR ad x :: vR ad r :: rest)) := by
  subst hz hx
  obtain ⟨k, Cn, T, N, ty0, hc, hu, hty0, hnm, hk, hT, hpd, ht, hfl⟩ := hF
  refine va_putF (Ts := UW) (ref := own) (own := own) C.1 C.2.1 C.2.2.2.1 hu ty0 hty0 hnm C.2.2.1 C.2.2.2.2.1.1 G.1.1 G.D G.2.2 z (wo_o hzl ht) hc k hk (by rw [hT]; exact C.2.2.2.1 _ hl) (by rw [hT]; exact fun _ h => h) (by rw [hT]) hmn (by rw [hT]) (by rw [hT]; exact hpd) (v := vR ad (some w)) (by rcases hty with ⟨n, rfl⟩ | ⟨t, rfl⟩ <;> rfl) (by rcases hty with ⟨n, rfl⟩ | ⟨t, rfl⟩ <;> rfl) (by rw [List.length_map]; exact (List.getElem?_eq_some_iff.mp hfl).1) hdg (fun H1 locs1 hP _ hS => ?_)
  rw [wo_fV (j := j) (w := w) hzl (by rw [cf_o ht, fl_setF (f' := fun k => if k = j then some w else V.2.2.2 z k) hfl (by simp [fv]) (fun j' h => if_neg h)])] at hP
  refine kk _ H1 locs1 rfl (exT.fv V z j w) ⟨⟨hP, G.1.2.1, G.1.2.2.1, G.1.2.2.2.1, fun a k z9 hz9 => ?_, G.1.2.2.2.2.2⟩, G.2.1, hS⟩
  have hz9 : (if a = z ∧ k = j then some w else V.2.2.2 a k) = some z9 := hz9
  split at hz9
  · cases hz9; exact hw
  · exact G.f a k z9 hz9
theorem gx_getFr (C : Cx p s m args meth c cc own D cy A) (G : Gy D cy A s.heap ad V S H locs) {r : Option Nat} {z : Nat} (hz : r = some z) (hzl : z < V.1) {j : Nat} {dcl nm ds : String} {fin : Bool} {ty : FieldType} (hF : ∃ k, FO (V.2.1 z) k 2 j dcl nm ds fin ty) {ref : String} {index : Nat} (hl : Cond.fieldLink own index ref nm ds ∈ UW) (hsame : ∀ x, s.fieldFound? dcl nm ds = some x → s.fieldFound? ref nm ds = some x) (hdg : decode cc pc = .ok (.getfield index, 3)) (kk : W p l e R s m args below meth c H locs cells slots Q (F0 m (pc + 3) ls (vR ad (V.2.2.2 z j) :: rest))) : W p l e R s m args below meth c H locs cells slots Q (F0 m pc ls (vR ad r :: rest)) := gx_getv C G hz hzl hF hl hsame hdg rfl kk
theorem cA_eq {cA : ClassId} (h1 : va_K D vwCl (tyl cy) s) (h2 : va_K D vwCl (tyl cy ++ [(cA, .object "RowBank$Ask")]) s) : cA = cy.2.1 := by
  obtain ⟨k1, c1, -, -, -, e1⟩ := (h2.2 4 (cA, .object "RowBank$Ask") rfl).2
  obtain ⟨k2, c2, -, -, -, e2⟩ := (h1.2 1 (cy.2.1, .object "RowBank$Ask") rfl).2
  exact Option.some.inj (e1.symm.trans e2)
theorem cS_eq {cA : ClassId} (h1 : va_K D vwCl (tyl cy) s) (h2 : va_K D vwCl (tyl cy ++ [(cA, .object "RowBank$Shelf")]) s) : cA = cy.2.2.1 := by
  obtain ⟨k1, c1, -, -, -, e1⟩ := (h2.2 4 (cA, .object "RowBank$Shelf") rfl).2
  obtain ⟨k2, c2, -, -, -, e2⟩ := (h1.2 2 (cy.2.2.1, .object "RowBank$Shelf") rfl).2
  exact Option.some.inj (e1.symm.trans e2)
/-- THE CONTRACT of a constructor that makes cells -/
def qmC (below : List Frame) (D : va_G) (cy : ClassId × ClassId × ClassId × ClassId) (ad : Nat → Nat) (V : Vt) (A : Nat → Prop) (args : Array Value) (s : State) (mc ms : Nat) (Qi : Vt → Me → Prop) : State → Prop := MQ below (fun _ st oc t => (∃ (ad' : Nat → Nat) (V' : Vt) (S' : Me), oc = .returned none ∧ (∀ k, k < V.1 → ad' k = ad k) ∧ (∀ k, k < V'.1 → A (ad' k)) ∧ exT V V' ∧ Qi V' S' ∧ Gx D cy ad' V' S' t.heap) ∧ va_F A st t) args s mc ms A
def KC (l : Launch) (D : va_G) (cy : ClassId × ClassId × ClassId × ClassId) (y : MethodName) (cc : ByteArray) (n : Nat) (fr lc mc ms : Nat) (ad : Nat → Nat) (V : Vt) (S : Me) (vs : List (Int ⊕ Option Nat)) (Qi : Vt → Me → Prop) : Prop :=
  ∀ sz : Nat, Met l y (.code y cc n none :: UW) ({ frames := fr, cells := mc, slots := ms, locals := lc }) (va_Pc (vs.map (vS ad)) (fun U => U.heap.size = sz ∧ Gx D cy ad V S U.heap ∧ Kx D cy U)) (fun _ st oc t => (∃ (ad' : Nat → Nat) (V' : Vt) (S' : Me), oc = .returned none ∧ (∀ k, k < V.1 → ad' k = ad k) ∧ (∀ k, k < V'.1 → RA ad V.1 sz (ad' k)) ∧ exT V V' ∧ Qi V' S' ∧ Gx D cy ad' V' S' t.heap) ∧ va_F (RA ad V.1 sz) st t) mc ms (RA ad V.1 sz)
theorem KC.of {y : MethodName} {cc : ByteArray} {n fr lc mc ms : Nat} {vs : List (Int ⊕ Option Nat)} {Qi : Vt → Me → Prop} {own : String} (hy : plainName y.cls = true) (ho : y.cls = own) (hvl : vs.length ≤ n)
    (body : ∀ (p : Program) (e : Env) (s : State) (m : MethodId) (args : Array Value) (below : List Frame) (meth : Method) (c : Code) (A : Nat → Prop) (ls : Array Slot) (H : Heap) (locs : List Loc), A = RA ad V.1 s.heap.size → Cx p s m args meth c cc own D cy A → meth.sig.returnType = none → c.maxLocals = n → meth.name = y.name → lo ad ls (vs.map some ++ List.replicate (n - vs.length) none) → Gy D cy A s.heap ad V S H locs →
      W p l e (rmA fr lc mc ms) s m args below meth c H locs 0 0 (qmC below D cy ad V A args s mc ms Qi) (F0 m 0 ls [])) : KC l D cy y cc n fr lc mc ms ad V S vs Qi := by
  intro sz
  refine Met.ofW (cc := cc) (maxL := n) (ret := none) hy rfl ?_
  intro p e s m args below meth c s₁ B hml hv
  obtain ⟨rfl, hsz, hG, hK⟩ := hv
  subst hsz
  have hts := atoms_spec (ws := (.code y cc n none :: UW)) B.pre
  have hown : s.vm.findClass own = some m.cls := by rw [← ho]; exact findClass_of_methodNamed B.named
  have hl := lo_entry ad vs n hvl
  rw [lg_entry_eq]
  generalize (lg_sl (vs.map (vS ad)) ++ List.replicate (n - (lg_sl (vs.map (vS ad))).length) Slot.unset).toArray = ls at hl ⊢
  exact body p e s m _ below meth c _ ls s.heap [] rfl ⟨B.exec, B.bytes, hown, fun w hw => hts w (List.mem_cons_of_mem _ hw), hK, fun q h => Or.inr h, B.notSynchronized⟩ B.returns hml (name_of_methodNamed B.named B.method).1 hl ⟨hG, fun k hk => Or.inl ⟨k, hk, rfl⟩, va_S.rf⟩
theorem gx_vretC (C : Cx p s m args meth c cc own D cy A) {ad0 : Nat → Nat} {V0 : Vt} (G : Gy D cy A s.heap ad V S H locs) (hag : ∀ k, k < V0.1 → ad k = ad0 k) (hex : exT V0 V) {mc ms : Nat} {Qi : Vt → Me → Prop} (hr : meth.sig.returnType = none) (h : Qi V S) (hdg : decode cc pc = .ok (.return_, 1)) (hm : cells ≤ mc ∧ slots ≤ ms) : W p l e R s m args below meth c H locs cells slots (qmC below D cy ad0 V0 A args s mc ms Qi) (F0 m pc ls []) :=
  W.widen hm.1 hm.2 (W.vret C.1 C.2.1 hr (fun t ht _ => ⟨⟨ad, V, S, rfl, hag, G.2.1, hex, h, by rw [ht]; exact G.1⟩, G.2.2.F ht⟩) G.2.2.2.2 hdg C.2.2.2.2.2.2)
theorem gx_backC (C : Cx p s m args meth c cc own D cy A) (G : Gy D cy A s.heap ad V S H locs) (hlo : lo ad ls PL) (okP : ∀ v, some v ∈ PL → okv V v) (rs : List (Int ⊕ Option Nat)) (okS : ∀ v ∈ rs, okv V v) {st0 : List Value} {mc ms : Nat} {Qi : Vt → Me → Prop} (hr : va_Run p l e R s m args below meth c H locs cells slots mc ms (F0 m pc ls st0) (rs.map (vS ad)) (fun st oc t => (∃ (ad' : Nat → Nat) (V' : Vt) (S' : Me), oc = .returned none ∧ (∀ k, k < V.1 → ad' k = ad k) ∧ (∀ k, k < V'.1 → RA ad V.1 H.size (ad' k)) ∧ exT V V' ∧ Qi V' S' ∧ Gx D cy ad' V' S' t.heap) ∧ va_F (RA ad V.1 H.size) st t) (RA ad V.1 H.size))
    (kk : ∀ (ad' : Nat → Nat) (V' : Vt) (S' : Me) (H1 : Heap) (locs1 : List Loc), Qi V' S' → (∀ k, k < V.1 → ad' k = ad k) → exT V V' → lo ad' ls PL → Gy D cy A s.heap ad' V' S' H1 locs1 → W p l e R s m args below meth c H1 locs1 (cells + mc) (slots + ms) Q (F0 m (pc + 3) ls (rs.map (vS ad')))) : W p l e R s m args below meth c H locs cells slots Q (F0 m pc ls st0) := by
  have hfree : ∀ q, RA ad V.1 H.size q → A q := by
    intro q hq
    rcases hq with ⟨k, hk, rfl⟩ | hq
    · exact G.2.1 k hk
    · exact C.2.2.2.2.2.1 q (Nat.le_trans G.2.2.1 hq)
  intro T hT X
  obtain ⟨v, st₀, t, T', L, h0, X', hL, e1, e2, ⟨⟨ad', V', S', hv, hag, hA', hex, hq, hg⟩, hz, hk⟩, st⟩ := hr T hT X
  cases hv
  rw [h0] at hz hk
  have h9 := kk ad' V' S' T'.heap (locs ++ L) hq hag hex (lo_mv hag okP hlo) ⟨by rw [e1]; exact hg, fun k hk => hfree _ (hA' k hk), Nat.le_trans G.2.2.1 (by rw [e1]; exact hz), fun q h1 h2 => by rw [e1, hk q (Nat.lt_of_lt_of_le h1 G.2.2.1) (fun z => h2 (hfree q z))]; exact G.2.2.2.1 q h1 h2, fun q hq => by
      rcases List.mem_append.mp hq with h | h
      · exact G.2.2.2.2 q h
      · exact hfree _ (hL q h)⟩
  rw [vs_mv hag okS] at h9
  obtain ⟨t2, a1, b1⟩ := h9 T' rfl X'
  exact ⟨t2, st t2 a1, b1⟩
theorem gx_callIC (C : Cx p s m args meth c cc own D cy A) (G : Gy D cy A s.heap ad V S H locs) (hlo : lo ad ls PL) (okP : ∀ v, some v ∈ PL → okv V v) (hml : c.maxLocals = PL.length) {y : MethodName} {bc : ByteArray} {n fr lc mc ms index : Nat} {Qi : Vt → Me → Prop} {r : Option Nat} {z : Nat}
    (hK : KC l D cy y bc n fr lc mc ms ad V S [.inr (some z)] Qi) (hz : r = some z)
    (hcode : Cond.code y bc n none ∈ UW) (hlink : Cond.methodLink own index y ∈ UW) (hinst : Cond.instanceMethod y ∈ UW) (hini : Cond.initialized y.cls ∈ UW) (hnm : y.name = "<init>")
    (hd : y.cls ≠ "java/lang/invoke/MethodHandle" ∧ y.cls ≠ "java/lang/invoke/VarHandle" ∧ (parseMethodDescriptor y.desc).map (fun d => d.parameters.length) = some 0) (hR : fr + 1 ≤ R.frames ∧ 8 + (n + 11) + lc ≤ R.locals) (hRc : cells + mc ≤ R.cells ∧ slots + ms ≤ R.slots)
    (rs : List (Int ⊕ Option Nat)) (okS : ∀ v ∈ rs, okv V v) {st0 : List Value} (hst : st0 = vR ad r :: rs.map (vS ad)) (hrl : rs.length ≤ 8) (hdg : decode cc pc = .ok (.invokespecial index, 3))
    (kk : ∀ (ad' : Nat → Nat) (V' : Vt) (S' : Me) (H1 : Heap) (locs1 : List Loc), Qi V' S' → (∀ k, k < V.1 → ad' k = ad k) → exT V V' → lo ad' ls PL → Gy D cy A s.heap ad' V' S' H1 locs1 → W p l e R s m args below meth c H1 locs1 (cells + mc) (slots + ms) Q (F0 m (pc + 3) ls (rs.map (vS ad')))) : W p l e R s m args below meth c H locs cells slots Q (F0 m pc ls st0) := by
  subst hz
  have hts := C.2.2.2.1
  refine gx_backC C G hlo okP rs okS (va_runI (b := ad z) (As := []) (Ts := UW) (own := own) (nL := PL.length) ⟨C.1, C.2.1, hml, C.2.2.1, hts⟩ (hK H.size) ⟨callB_of (ws' := UW) 0 hts (uw_in hcode) rfl rfl rfl (hts _ hini) (hts _ hlink) hd hR, hnm, hts _ hinst⟩ ⟨KM.blind (y := y) (cc := bc), fun U hU hW => ⟨rfl, by rw [hU], by rw [hU]; exact G.1, Kx.warm hW C.2.2.2.2.1⟩⟩ rfl rfl hlo.1 hst (lv_room (hw_le ad rs rfl hrl)) hdg hRc) kk
/-- a nest mate's private constructor -/
theorem gx_callICN (C : Cx p s m args meth c cc own D cy A) (G : Gy D cy A s.heap ad V S H locs) (hlo : lo ad ls PL) (okP : ∀ v, some v ∈ PL → okv V v) (hml : c.maxLocals = PL.length) {y : MethodName} {host : String} {bc : ByteArray} {n fr lc mc ms index : Nat} {Qi : Vt → Me → Prop} {r : Option Nat} {z : Nat}
    (hK : KC l D cy y bc n fr lc mc ms ad V S [.inr (some z)] Qi) (hz : r = some z)
    (hcode : Cond.code y bc n none ∈ UW) (hlink : Cond.methodLinkNest own index y host ∈ NW) (hinst : Cond.instanceMethod y ∈ UW) (hini : Cond.initialized y.cls ∈ UW) (hnm : y.name = "<init>")
    (hd : y.cls ≠ "java/lang/invoke/MethodHandle" ∧ y.cls ≠ "java/lang/invoke/VarHandle" ∧ (parseMethodDescriptor y.desc).map (fun d => d.parameters.length) = some 0) (hR : fr + 1 ≤ R.frames ∧ 8 + (n + 11) + lc ≤ R.locals) (hRc : cells + mc ≤ R.cells ∧ slots + ms ≤ R.slots)
    (rs : List (Int ⊕ Option Nat)) (okS : ∀ v ∈ rs, okv V v) {st0 : List Value} (hst : st0 = vR ad r :: rs.map (vS ad)) (hrl : rs.length ≤ 8) (hdg : decode cc pc = .ok (.invokespecial index, 3))
    (kk : ∀ (ad' : Nat → Nat) (V' : Vt) (S' : Me) (H1 : Heap) (locs1 : List Loc), Qi V' S' → (∀ k, k < V.1 → ad' k = ad k) → exT V V' → lo ad' ls PL → Gy D cy A s.heap ad' V' S' H1 locs1 → W p l e R s m args below meth c H1 locs1 (cells + mc) (slots + ms) Q (F0 m (pc + 3) ls (rs.map (vS ad')))) : W p l e R s m args below meth c H locs cells slots Q (F0 m pc ls st0) := by
  subst hz
  have hts := C.2.2.2.1
  refine gx_backC C G hlo okP rs okS (va_runIN (host := host) (b := ad z) (As := []) (Ts := UW) (own := own) (nL := PL.length) ⟨C.1, C.2.1, hml, C.2.2.1, hts⟩ (hK H.size) ⟨va_cnB (ws' := UW) 0 hts (uw_in hcode) rfl rfl rfl (C.2.2.2.2.1.2 _ hlink) (hts _ hini) hd hR, hnm, hts _ hinst⟩ ⟨KM.blind (y := y) (cc := bc), fun U hU hW => ⟨rfl, by rw [hU], by rw [hU]; exact G.1, Kx.warm hW C.2.2.2.2.1⟩⟩ rfl rfl hlo.1 hst (lv_room (hw_le ad rs rfl hrl)) hdg hRc) kk
/-- a row of references, all null: of Asks (13), of Shelves (14) -/
theorem gx_anew (C : Cx p s m args meth c cc own D cy A) (G : Gy D cy A s.heap ad V S H locs) (hlo : lo ad ls PL) (okP : ∀ v, some v ∈ PL → okv V v) {n : Int} (rn : rng n) (N : Nat) (h0 : 0 ≤ n) (hN : n = (N : Int)) (hNb : N ≤ 100000) {t index : Nat} {E : String} (hE : (t = 13 ∧ E = "RowBank$Ask") ∨ (t = 14 ∧ E = "RowBank$Shelf")) (hcl : Cond.classLink own index E ∈ UW) (hover : Cond.arrayOver (.object E) ∈ NW) (hcells : cells + 1 ≤ R.cells) (hslots : slots + N ≤ R.slots) (rs : List (Int ⊕ Option Nat)) (hrs : rest = rs.map (vS ad)) (okS : ∀ v ∈ rs, okv V v) (hdg : decode cc pc = .ok (.anewarray index, 3))
    (kk : ∀ (ad' : Nat → Nat) (V' : Vt) (S' : Me) (H1 : Heap), V' = nV V t N → S' = nS V S → (∀ k, k < V.1 → ad' k = ad k) → exV V V' → lo ad' ls PL → Gy D cy A s.heap ad' V' S' H1 locs → W p l e R s m args below meth c H1 locs (cells + 1) (slots + N) Q (F0 m (pc + 3) ls (vR ad' (some V.1) :: rs.map (vS ad')))) : W p l e R s m args below meth c H locs cells slots Q (F0 m pc ls (vI n :: rest)) := by
  have hts := C.2.2.2.1
  refine va_newq (N' := N) C.1 C.2.1 C.2.2.1 (hts _ hcl) (va_AO.of (A := #[]) (C.2.2.2.2.1.2 _ hover)) C.2.2.2.2.1.1 G.1.1 G.D G.2.2 C.2.2.2.2.2.1 (fun h => absurd ((rg_lt rn (show rng 0 by decide)).mp h) (by omega)) (by rw [rg_cl rn]; omega) (by omega) hcells hslots hdg (fun q cA H1 hK' hP hD hS => ?_)
  have e9 : (.inl (cA, N, .inr (.inr (.inr (.inr (fun _ => none))))) : va_E) = cf cy ad t N (fun _ => 0) (fun _ => none) (fun _ => none) := by
    rcases hE with ⟨h1, h2⟩ | ⟨h1, h2⟩
    · subst h2; rw [cA_eq C.2.2.2.2.1.1 hK', cf_a h1]; rfl
    · subst h2; rw [cS_eq C.2.2.2.2.1.1 hK', cf_s h1]; rfl
  rw [e9] at hP hD
  have h := kk (nA V ad q) _ _ H1 rfl rfl nA_ag (exV.nw V t N) (lo_mv nA_ag okP hlo) (Gy_nw G (by omega) hP hD hS)
  rw [vs_mv nA_ag okS, ← hrs, show vR (nA V ad q) (some V.1) = .ref q by simp [vR, va_rf, nA]] at h
  exact h
end GK
