theorem vsome {w n : Nat} (h : w < n) : ∀ z, some w = some z → z < n := fun z h9 => by cases h9; exact h
theorem vnone {n : Nat} : ∀ z, (none : Option Nat) = some z → z < n := fun z h9 => by cases h9
theorem ixl {L n : Nat} {i : Int} (e : L = n) (h : i < (n : Int)) : i < (L : Int) := by rw [e]; exact h
theorem isW_A {t : Nat} (h : isW t) : isA t := by omega
theorem hw_le (ad : Nat → Nat) {rest : List Value} (rs : List (Int ⊕ Option Nat)) (h : rest = rs.map (vS ad)) (hl : rs.length ≤ 8) : (rest.map fun v => v.category).sum ≤ 8 := by
  subst h
  have : ((rs.map (vS ad)).map fun v => v.category).sum = rs.length := by
    clear hl
    induction rs with
    | nil => rfl
    | cons a t ih => simp only [List.map_cons, List.sum_cons, List.length_cons, vS_cat, ih]; omega
  rw [this]; exact hl
def isin (v lo hi : Int) : Int := if lo ≤ v ∧ v ≤ hi then 1 else 0
theorem isin01 (v lo hi : Int) : isin v lo hi = 0 ∨ isin v lo hi = 1 := by unfold isin; split <;> simp
theorem isin_r (v lo hi : Int) : rng (isin v lo hi) := by rcases isin01 v lo hi with h | h <;> rw [h] <;> decide
theorem lg_t {x : Int} (h : rng x) : (Int64.ofInt x).toInt = x := Int64.toInt_ofInt_of_le (by omega) (by omega)
theorem lg_lt {x y : Int} (hx : rng x) (hy : rng y) : Int64.ofInt x < Int64.ofInt y ↔ x < y := by rw [Int64.lt_iff_toInt_lt, lg_t hx, lg_t hy]
theorem lg_eq {x y : Int} (hx : rng x) (hy : rng y) : Int64.ofInt x = Int64.ofInt y ↔ x = y := by rw [← Int64.toInt_inj, lg_t hx, lg_t hy]
theorem lg_c1 {x y : Int} (hx : rng x) (hy : rng y) : lg_cmp (Int64.ofInt x) (Int64.ofInt y) < 0 ↔ x < y := by
  unfold lg_cmp
  rcases Int.lt_trichotomy x y with h | h | h
  · have h1 : ¬ Int64.ofInt x > Int64.ofInt y := fun q => by have := (lg_lt hy hx).mp q; omega
    have h2 : ¬ Int64.ofInt x = Int64.ofInt y := fun q => by have := (lg_eq hx hy).mp q; omega
    rw [if_neg h1, if_neg h2]
    exact ⟨fun _ => h, fun _ => by decide⟩
  · subst h
    rw [if_neg (fun q => by have := (lg_lt hx hx).mp q; omega), if_pos rfl]
    exact ⟨fun q => absurd q (by decide), fun q => by omega⟩
  · have h1 : Int64.ofInt x > Int64.ofInt y := (lg_lt hy hx).mpr h
    rw [if_pos h1]
    exact ⟨fun q => absurd q (by decide), fun q => by omega⟩
theorem lg_c2 {x y : Int} (hx : rng x) (hy : rng y) : 0 < lg_cmp (Int64.ofInt x) (Int64.ofInt y) ↔ y < x := by
  unfold lg_cmp
  rcases Int.lt_trichotomy x y with h | h | h
  · have h1 : ¬ Int64.ofInt x > Int64.ofInt y := fun q => by have := (lg_lt hy hx).mp q; omega
    have h2 : ¬ Int64.ofInt x = Int64.ofInt y := fun q => by have := (lg_eq hx hy).mp q; omega
    rw [if_neg h1, if_neg h2]
    exact ⟨fun q => absurd q (by decide), fun q => by omega⟩
  · subst h
    rw [if_neg (fun q => by have := (lg_lt hx hx).mp q; omega), if_pos rfl]
    exact ⟨fun q => absurd q (by decide), fun q => by omega⟩
  · have h1 : Int64.ofInt x > Int64.ofInt y := (lg_lt hy hx).mpr h
    rw [if_pos h1]
    exact ⟨fun _ => h, fun _ => by decide⟩
theorem hd_X12_isIn : yX12_isIn.cls ≠ "java/lang/invoke/MethodHandle" ∧ yX12_isIn.cls ≠ "java/lang/invoke/VarHandle" ∧ (parseMethodDescriptor yX12_isIn.desc).map (fun d => d.parameters.length) = some 3 := by decide +kernel
set_option maxHeartbeats 4000000 in
set_option maxRecDepth 100000 in
theorem c_isIn (l : Launch) (H0 : Heap) {v lo hi : Int} (rv : rng v) (rl : rng lo) (rh : rng hi) : Met l yX12_isIn (.code yX12_isIn cX12_isIn 6 (some .boolean) :: UW) ({ frames := 0, cells := 0, slots := 0, locals := 0 }) (va_Pc [vL v, vL lo, vL hi] (fun U => U.heap = H0)) (fun _ st oc t => oc = .returned (some (vI (isin v lo hi))) ∧ t.heap = st.heap) 0 0 (fun _ => False) := by
  refine Met.ofW (cc := cX12_isIn) (maxL := 6) (ret := some .boolean) (by decide) rfl ?_
  intro p e s m args below meth c s₁ B hml hv
  obtain ⟨rfl, hsz⟩ := hv
  have hx := B.exec
  have hb := B.bytes
  have hr := B.returns
  have hlocks := B.notSynchronized
  have hl := lv_entry ([vL v, vL lo, vL hi]) (n := 6) (Nat.le_of_ble_eq_true rfl)
  rw [lg_entry_eq]
  generalize (lg_sl ([vL v, vL lo, vL hi]) ++ List.replicate (6 - (lg_sl ([vL v, vL lo, vL hi])).length) Slot.unset).toArray = ls at hl ⊢
  have hl : lv_has ls 6 [(0, .long (Int64.ofInt v)), (2, .long (Int64.ofInt lo)), (4, .long (Int64.ofInt hi))] := hl
  have k18 : ∀ x : Int, x = 0 ∨ x = 1 → x = isin v lo hi → W p l e (headSpec (Cond.code yX12_isIn cX12_isIn 6 (some FieldType.boolean) :: UW) { frames := 0, cells := 0, slots := 0, locals := 0 }).room s m [vL v, vL lo, vL hi].toArray below meth c s.heap [] 0 0 (MQ below (fun _ st oc t => oc = .returned (some (vI (isin v lo hi))) ∧ t.heap = st.heap) [vL v, vL lo, vL hi].toArray s 0 0 (fun _ => False)) (F0 m 18 ls [vI x]) := by
    intro x hx01 ex
    exact W.zret hx hb hr (by rcases hx01 with rfl | rfl <;> rfl) (fun t ht _ => ⟨by rw [← ex]; rfl, ht⟩) (fun q h => by cases h) dX12_isIn_18
  refine lv_lload_n hx hb dX12_isIn_0 rfl (lv_at hl 0 rfl) ?_
  refine lv_lload_n hx hb dX12_isIn_1 rfl (lv_at hl 1 rfl) ?_
  refine W.lcmp hx hb dX12_isIn_2 ?_
  refine lv_if_lt (tgt := 17) hx hb dX12_isIn_3 (by decide) (fun c1 => ?_) (fun c1 => ?_)
  · have c1 := (lg_c1 rv rl).mp c1
    refine lv_iconst (v := Int32.ofInt 0) hx hb dX12_isIn_17 rfl ?_
    exact k18 0 (Or.inl rfl) (by unfold isin; rw [if_neg]; omega)
  · have c1 : ¬ v < lo := fun q => c1 ((lg_c1 rv rl).mpr q)
    refine lv_lload_n hx hb dX12_isIn_6 rfl (lv_at hl 0 rfl) ?_
    refine lv_lload hx hb dX12_isIn_7 (lv_at hl 2 rfl) ?_
    refine W.lcmp hx hb dX12_isIn_9 ?_
    refine lv_if_gt (tgt := 17) hx hb dX12_isIn_10 (by decide) (fun c2 => ?_) (fun c2 => ?_)
    · have c2 := (lg_c2 rv rh).mp c2
      refine lv_iconst (v := Int32.ofInt 0) hx hb dX12_isIn_17 rfl ?_
      exact k18 0 (Or.inl rfl) (by unfold isin; rw [if_neg]; omega)
    · have c2 : ¬ hi < v := fun q => c2 ((lg_c2 rv rh).mpr q)
      refine lv_iconst (v := Int32.ofInt 1) hx hb dX12_isIn_13 rfl ?_
      refine lv_goto (tgt := 18) hx hb dX12_isIn_14 (by decide) ?_
      exact k18 1 (Or.inr rfl) (by unfold isin; rw [if_pos]; omega)
section GN
variable {p : Program} {l : Launch} {e : Env} {R : Room} {s : State} {m : MethodId} {args : Array Value} {below : List Frame} {meth : Method} {c : Code} {H : Heap} {locs : List Loc} {cells slots : Nat} {Q : State → Prop} {cc : ByteArray} {pc : Nat} {ls : Array Slot} {rest : List Value} {D : va_G} {cy : ClassId × ClassId × ClassId × ClassId} {A : Nat → Prop} {ad : Nat → Nat} {V : Vt} {S : Me} {own : String} {PL : List (Option (Int ⊕ Option Nat))}
theorem gx_isIn (C : Cx p s m args meth c cc own D cy A) (G : Gy D cy A s.heap ad V S H locs) (hlo : lo ad ls PL) (hml : c.maxLocals = PL.length) {index : Nat} {v lo hi : Int} (rv : rng v) (rl : rng lo) (rh : rng hi) (hlink : Cond.methodLink own index yX12_isIn ∈ UW) (hR : 1 ≤ R.frames ∧ 25 ≤ R.locals) (hRc : cells ≤ R.cells ∧ slots ≤ R.slots) (hW : (rest.map fun v => v.category).sum ≤ 8) (hdg : decode cc pc = .ok (.invokestatic index, 3)) (kk : W p l e R s m args below meth c H locs cells slots Q (F0 m (pc + 3) ls (vI (isin v lo hi) :: rest))) : W p l e R s m args below meth c H locs cells slots Q (F0 m pc ls (vL hi :: vL lo :: vL v :: rest)) := by
  have hts := C.2.2.2.1
  have hr : va_Run p l e R s m args below meth c H locs cells slots 0 0 (F0 m pc ls (vL hi :: vL lo :: vL v :: rest)) rest _ _ := va_runS (As := [vL v, vL lo, vL hi]) (rest := rest) (Ts := UW) (own := own) (nL := PL.length) ⟨C.1, C.2.1, hml, C.2.2.1, hts⟩ (c_isIn l H rv rl rh) ⟨callB_of (ws' := UW) 3 hts (uw_in uwIsIn) rfl rfl rfl (hts _ uwIsInI) (hts _ hlink) hd_X12_isIn hR, hts _ uwIsInS⟩ ⟨fun a U g mk q => ⟨q.1, q.2⟩, fun U hU _ => ⟨rfl, hU⟩⟩ rfl rfl hlo.1 rfl (lv_room hW) hdg ⟨hRc.1, hRc.2⟩
  intro T hT X
  obtain ⟨v9, st₀, t, T', L, h0, X', hL, e1, e2, ⟨hv, hh⟩, st⟩ := hr T hT X
  cases hv
  have hLn : L = [] := by
    cases L with
    | nil => rfl
    | cons a b => exact (hL a List.mem_cons_self).elim
  subst hLn
  rw [List.append_nil] at X'
  obtain ⟨t2, a1, b1⟩ := kk T' (by rw [e1, hh, h0]) X'
  exact ⟨t2, st t2 a1, b1⟩
theorem gx_dup2RI (C : Cx p s m args meth c cc own D cy A) {x : Int} {r : Option Nat} (hdg : decode cc pc = .ok (.dup2, 1)) (k : W p l e R s m args below meth c H locs cells slots Q (F0 m (pc + 1) ls (vI x :: vR ad r :: vI x :: vR ad r :: rest))) : W p l e R s m args below meth c H locs cells slots Q (F0 m pc ls (vI x :: vR ad r :: rest)) := lv_dup2_11 C.1 C.2.1 hdg rfl (vS_cat ad (.inr r)) k
theorem gx_popR (C : Cx p s m args meth c cc own D cy A) {r : Option Nat} (hdg : decode cc pc = .ok (.pop, 1)) (k : W p l e R s m args below meth c H locs cells slots Q (F0 m (pc + 1) ls rest)) : W p l e R s m args below meth c H locs cells slots Q (F0 m pc ls (vR ad r :: rest)) := lv_pop C.1 C.2.1 hdg (vS_cat ad (.inr r)) k
/-- an Ask is put into the array of Asks -/
theorem gx_aastA (C : Cx p s m args meth c cc own D cy A) (G : Gy D cy A s.heap ad V S H locs) {r : Option Nat} {z : Nat} (hz : r = some z) (hzl : z < V.1) (ht : V.2.1 z = 13) {i : Int} (ri : rng i) (h0 : 0 ≤ i) (h1 : i < (V.2.2.1 z : Int)) {x : Option Nat} {w : Nat} (hw : x = some w) (hwl : w < V.1) (hA : isA (V.2.1 w)) (hdg : decode cc pc = .ok (.aastore, 1)) (kk : ∀ (H1 : Heap) (locs1 : List Loc), Gy D cy A s.heap ad V (sP S z i.toNat x) H1 locs1 → W p l e R s m args below meth c H1 locs1 cells slots Q (F0 m (pc + 1) ls rest)) : W p l e R s m args below meth c H locs cells slots Q (F0 m pc ls (vR ad x :: vI i :: vR ad r :: rest)) := by
  subst hz hw
  have hA12 : V.2.1 w < 12 := by omega
  obtain ⟨q9, hq, hca⟩ : ∃ q9 : vw_C, vwCl[V.2.1 w]? = some q9 ∧ va_Nw (.castable q9.1 "RowBank$Ask") s := by
    rcases hA with h | h | h | h | h <;> rw [h]
    · exact ⟨_, rfl, C.2.2.2.2.1.2 (.castable RX2 RX0) (by decide +kernel)⟩
    · exact ⟨_, rfl, C.2.2.2.2.1.2 (.castable RX3 RX0) (by decide +kernel)⟩
    · exact ⟨_, rfl, C.2.2.2.2.1.2 (.castable RX6 RX0) (by decide +kernel)⟩
    · exact ⟨_, rfl, C.2.2.2.2.1.2 (.castable RX9 RX0) (by decide +kernel)⟩
    · exact ⟨_, rfl, C.2.2.2.2.1.2 (.castable RX10 RX0) (by decide +kernel)⟩
  refine va_astqO (E := "RowBank$Ask") C.1 C.2.1 C.2.2.2.2.1.1 G.1.1 G.D G.2.2 z 1 w (V.2.1 w) (by rw [wo_at hzl, cf_a ht]) rfl hca (wo_o hwl hA12) hq (rg_in ri h0 h1) hdg (fun H1 locs1 hP _ hS => ?_)
  rw [rg_cl ri, wo_sP (j := i.toNat) (r := some w) hzl (by
    rw [cf_a ht]
    congr 3
    refine congrArg (fun f => Sum.inr (Sum.inr (Sum.inr (Sum.inr f)))) (funext fun j => ?_)
    by_cases hj : j = i.toNat
    · subst hj; simp [va_up]
    · simp [va_up, hj])] at hP
  exact kk H1 locs1 ⟨Gx_sP (vsome hwl) hP G.1, G.2.1, hS⟩
/-- a virtual call of an Ask's method: x is the name at the call, y the code that its class has -/
theorem gx_callU (C : Cx p s m args meth c cc own D cy A) (G : Gy D cy A s.heap ad V S H locs) (hlo : lo ad ls PL) (hml : c.maxLocals = PL.length) {x y : MethodName} {owner : String} {bc : ByteArray} {n fr lc na index : Nat} {rt : Option FieldType} {vs : List (Int ⊕ Option Nat)} {Qo : Option (Int ⊕ Option Nat) → Me → Prop} {r : Option Nat} {z : Nat}
    (hK : KM l D cy y bc n rt fr lc ad V S (.inr (some z) :: vs) Qo) (hz : r = some z) (hzl : z < V.1) {q9 : vw_C} (hc : vwCl[V.2.1 z]? = some q9) (ht : V.2.1 z < 12)
    (hcode : Cond.code y bc n rt ∈ UW) (hlink : Cond.methodLink own index x ∈ UW) (hsm : Cond.sameMethod x.cls owner x.name x.desc ∈ UW) (hdc : va_Decl s ⟨owner, x.name, x.desc⟩) (hinst : Cond.instanceMethod y ∈ UW) (hsel : Cond.selects q9.1 x y ∈ UW) (hini : Cond.initialized y.cls ∈ UW)
    (hd : owner ≠ "java/lang/invoke/MethodHandle" ∧ owner ≠ "java/lang/invoke/VarHandle" ∧ (parseMethodDescriptor x.desc).map (fun d => d.parameters.length) = some na) (hR : fr + 1 ≤ R.frames ∧ 8 + (n + 11) + lc ≤ R.locals) (hRc : cells ≤ R.cells ∧ slots ≤ R.slots)
    (hn : vs.length = na) {st0 : List Value} (hst : st0 = (vs.map (vS ad)).reverse ++ vR ad r :: rest) (hW : (rest.map fun v => v.category).sum ≤ 8) (hdg : decode cc pc = .ok (.invokevirtual index, 3))
    (kk : ∀ (r : Option (Int ⊕ Option Nat)) (S' : Me) (H1 : Heap) (locs1 : List Loc), (∀ v, r = some v → okv V v) → Qo r S' → Gy D cy A s.heap ad V S' H1 locs1 → W p l e R s m args below meth c H1 locs1 cells slots Q (F0 m (pc + 3) ls ((r.map (vS ad)).toList ++ rest))) : W p l e R s m args below meth c H locs cells slots Q (F0 m pc ls st0) := by
  subst hz
  have hts := C.2.2.2.1
  refine gx_back C G (va_runU (C := q9.1) (owner := owner) (x := x) (b := ad z) (As := vs.map (vS ad)) (Ts := UW) (own := own) (nL := PL.length) ⟨C.1, C.2.1, hml, C.2.2.1, hts⟩ (hK H.size) ⟨⟨rfl, rfl, hR.1, hR.2, pay_in hts (uw_in hcode), List.mem_cons_self⟩, hts _ hcode, hts _ hini, ⟨hd.1, hd.2.1⟩, fun sig h => by have h2 := hd.2.2; rw [h] at h2; exact (Option.some.inj h2).symm, hts _ hlink, hts _ hsm, hdc, hts _ hsel, hts _ hinst⟩ ⟨KM.blind (y := y) (cc := bc), va_recv C.2.2.2.2.1.1 G.1.1 hc (wo_o hzl ht), fun U hU hW => ⟨rfl, by rw [hU], by rw [hU]; exact G.1, Kx.warm hW C.2.2.2.2.1⟩⟩ rfl (by rw [List.length_map]; exact hn) hlo.1 hst (lv_room hW) hdg ⟨hRc.1, hRc.2⟩) kk
end GN
def fX5 (V : Vt) (o : Nat) : Prop := (o < V.1 ∧ V.2.1 o = 4) ∧ (V.2.2.2 o 0 = some (o + 1) ∧ o + 1 < V.1 ∧ V.2.1 (o + 1) = 12 ∧ V.2.2.1 (o + 1) = 4) ∧ (V.2.2.2 o 1 = some (o + 2) ∧ o + 2 < V.1 ∧ V.2.1 (o + 2) = 12 ∧ V.2.2.1 (o + 2) = 4) ∧ (V.2.2.2 o 2 = some (o + 3) ∧ o + 3 < V.1 ∧ V.2.1 (o + 3) = 12 ∧ V.2.2.1 (o + 3) = 4) ∧ (V.2.2.2 o 3 = some (o + 4) ∧ o + 4 < V.1 ∧ V.2.1 (o + 4) = 12 ∧ V.2.2.1 (o + 4) = 4) ∧ (V.2.2.2 o 4 = some (o + 5) ∧ o + 5 < V.1 ∧ V.2.1 (o + 5) = 12 ∧ V.2.2.1 (o + 5) = 4) ∧ (V.2.2.2 o 5 = some (o + 6) ∧ o + 6 < V.1 ∧ V.2.1 (o + 6) = 12 ∧ V.2.2.1 (o + 6) = 2) ∧ (V.2.2.2 o 6 = some (o + 7) ∧ o + 7 < V.1 ∧ V.2.1 (o + 7) = 12 ∧ V.2.2.1 (o + 7) = 4)
theorem fX5_o {V : Vt} {o : Nat} (h : fX5 V o) : o < V.1 := h.1.1
theorem fX5_c {V : Vt} {o : Nat} (h : fX5 V o) : V.2.1 o = 4 := h.1.2
theorem fX5_opens {V : Vt} {o : Nat} (h : fX5 V o) : V.2.2.2 o 0 = some (o + 1) := h.2.1.1
theorem fX5_opens_l {V : Vt} {o : Nat} (h : fX5 V o) : o + 1 < V.1 := h.2.1.2.1
theorem fX5_opens_t {V : Vt} {o : Nat} (h : fX5 V o) : V.2.1 (o + 1) = 12 := h.2.1.2.2.1
theorem fX5_opens_n {V : Vt} {o : Nat} (h : fX5 V o) : V.2.2.1 (o + 1) = 4 := h.2.1.2.2.2
theorem fX5_opensBeside {V : Vt} {o : Nat} (h : fX5 V o) : V.2.2.2 o 1 = some (o + 2) := h.2.2.1.1
theorem fX5_opensBeside_l {V : Vt} {o : Nat} (h : fX5 V o) : o + 2 < V.1 := h.2.2.1.2.1
theorem fX5_opensBeside_t {V : Vt} {o : Nat} (h : fX5 V o) : V.2.1 (o + 2) = 12 := h.2.2.1.2.2.1
theorem fX5_opensBeside_n {V : Vt} {o : Nat} (h : fX5 V o) : V.2.2.1 (o + 2) = 4 := h.2.2.1.2.2.2
theorem fX5_shuts {V : Vt} {o : Nat} (h : fX5 V o) : V.2.2.2 o 2 = some (o + 3) := h.2.2.2.1.1
theorem fX5_shuts_l {V : Vt} {o : Nat} (h : fX5 V o) : o + 3 < V.1 := h.2.2.2.1.2.1
theorem fX5_shuts_t {V : Vt} {o : Nat} (h : fX5 V o) : V.2.1 (o + 3) = 12 := h.2.2.2.1.2.2.1
theorem fX5_shuts_n {V : Vt} {o : Nat} (h : fX5 V o) : V.2.2.1 (o + 3) = 4 := h.2.2.2.1.2.2.2
theorem fX5_reads {V : Vt} {o : Nat} (h : fX5 V o) : V.2.2.2 o 3 = some (o + 4) := h.2.2.2.2.1.1
theorem fX5_reads_l {V : Vt} {o : Nat} (h : fX5 V o) : o + 4 < V.1 := h.2.2.2.2.1.2.1
theorem fX5_reads_t {V : Vt} {o : Nat} (h : fX5 V o) : V.2.1 (o + 4) = 12 := h.2.2.2.2.1.2.2.1
theorem fX5_reads_n {V : Vt} {o : Nat} (h : fX5 V o) : V.2.2.1 (o + 4) = 4 := h.2.2.2.2.1.2.2.2
theorem fX5_writes {V : Vt} {o : Nat} (h : fX5 V o) : V.2.2.2 o 4 = some (o + 5) := h.2.2.2.2.2.1.1
theorem fX5_writes_l {V : Vt} {o : Nat} (h : fX5 V o) : o + 5 < V.1 := h.2.2.2.2.2.1.2.1
theorem fX5_writes_t {V : Vt} {o : Nat} (h : fX5 V o) : V.2.1 (o + 5) = 12 := h.2.2.2.2.2.1.2.2.1
theorem fX5_writes_n {V : Vt} {o : Nat} (h : fX5 V o) : V.2.2.1 (o + 5) = 4 := h.2.2.2.2.2.1.2.2.2
theorem fX5_columnsOfGroups {V : Vt} {o : Nat} (h : fX5 V o) : V.2.2.2 o 5 = some (o + 6) := h.2.2.2.2.2.2.1.1
theorem fX5_columnsOfGroups_l {V : Vt} {o : Nat} (h : fX5 V o) : o + 6 < V.1 := h.2.2.2.2.2.2.1.2.1
theorem fX5_columnsOfGroups_t {V : Vt} {o : Nat} (h : fX5 V o) : V.2.1 (o + 6) = 12 := h.2.2.2.2.2.2.1.2.2.1
theorem fX5_columnsOfGroups_n {V : Vt} {o : Nat} (h : fX5 V o) : V.2.2.1 (o + 6) = 2 := h.2.2.2.2.2.2.1.2.2.2
theorem fX5_fourOpens {V : Vt} {o : Nat} (h : fX5 V o) : V.2.2.2 o 6 = some (o + 7) := h.2.2.2.2.2.2.2.1
theorem fX5_fourOpens_l {V : Vt} {o : Nat} (h : fX5 V o) : o + 7 < V.1 := h.2.2.2.2.2.2.2.2.1
theorem fX5_fourOpens_t {V : Vt} {o : Nat} (h : fX5 V o) : V.2.1 (o + 7) = 12 := h.2.2.2.2.2.2.2.2.2.1
theorem fX5_fourOpens_n {V : Vt} {o : Nat} (h : fX5 V o) : V.2.2.1 (o + 7) = 4 := h.2.2.2.2.2.2.2.2.2.2
def fX4 (V : Vt) (o : Nat) : Prop := (o < V.1 ∧ V.2.1 o = 3) ∧ (V.2.2.2 o 0 = some (o + 1) ∧ o + 1 < V.1 ∧ V.2.1 (o + 1) = 12 ∧ V.2.2.1 (o + 1) = 1024) ∧ (V.2.2.2 o 1 = some (o + 2) ∧ o + 2 < V.1 ∧ V.2.1 (o + 2) = 12 ∧ V.2.2.1 (o + 2) = 4)
theorem fX4_o {V : Vt} {o : Nat} (h : fX4 V o) : o < V.1 := h.1.1
theorem fX4_c {V : Vt} {o : Nat} (h : fX4 V o) : V.2.1 o = 3 := h.1.2
theorem fX4_octets {V : Vt} {o : Nat} (h : fX4 V o) : V.2.2.2 o 0 = some (o + 1) := h.2.1.1
theorem fX4_octets_l {V : Vt} {o : Nat} (h : fX4 V o) : o + 1 < V.1 := h.2.1.2.1
theorem fX4_octets_t {V : Vt} {o : Nat} (h : fX4 V o) : V.2.1 (o + 1) = 12 := h.2.1.2.2.1
theorem fX4_octets_n {V : Vt} {o : Nat} (h : fX4 V o) : V.2.2.1 (o + 1) = 1024 := h.2.1.2.2.2
theorem fX4_openRows {V : Vt} {o : Nat} (h : fX4 V o) : V.2.2.2 o 1 = some (o + 2) := h.2.2.1
theorem fX4_openRows_l {V : Vt} {o : Nat} (h : fX4 V o) : o + 2 < V.1 := h.2.2.2.1
theorem fX4_openRows_t {V : Vt} {o : Nat} (h : fX4 V o) : V.2.1 (o + 2) = 12 := h.2.2.2.2.1
theorem fX4_openRows_n {V : Vt} {o : Nat} (h : fX4 V o) : V.2.2.1 (o + 2) = 4 := h.2.2.2.2.2
def fX7 (V : Vt) (o : Nat) : Prop := (o < V.1 ∧ V.2.1 o = 6) ∧ (V.2.2.2 o 0 = some (o + 1) ∧ o + 1 < V.1 ∧ V.2.1 (o + 1) = 13 ∧ V.2.2.1 (o + 1) = 400) ∧ (V.2.2.2 o 1 = some (o + 2) ∧ o + 2 < V.1 ∧ V.2.1 (o + 2) = 12 ∧ V.2.2.1 (o + 2) = 1024) ∧ (V.2.2.2 o 2 = some (o + 3) ∧ o + 3 < V.1 ∧ V.2.1 (o + 3) = 12 ∧ V.2.2.1 (o + 3) = 4) ∧ (V.2.2.2 o 3 = some (o + 4) ∧ o + 4 < V.1 ∧ V.2.1 (o + 4) = 12 ∧ V.2.2.1 (o + 4) = 4)
theorem fX7_o {V : Vt} {o : Nat} (h : fX7 V o) : o < V.1 := h.1.1
theorem fX7_c {V : Vt} {o : Nat} (h : fX7 V o) : V.2.1 o = 6 := h.1.2
theorem fX7_all {V : Vt} {o : Nat} (h : fX7 V o) : V.2.2.2 o 0 = some (o + 1) := h.2.1.1
theorem fX7_all_l {V : Vt} {o : Nat} (h : fX7 V o) : o + 1 < V.1 := h.2.1.2.1
theorem fX7_all_t {V : Vt} {o : Nat} (h : fX7 V o) : V.2.1 (o + 1) = 13 := h.2.1.2.2.1
theorem fX7_all_n {V : Vt} {o : Nat} (h : fX7 V o) : V.2.2.1 (o + 1) = 400 := h.2.1.2.2.2
theorem fX7_plainOctets {V : Vt} {o : Nat} (h : fX7 V o) : V.2.2.2 o 1 = some (o + 2) := h.2.2.1.1
theorem fX7_plainOctets_l {V : Vt} {o : Nat} (h : fX7 V o) : o + 2 < V.1 := h.2.2.1.2.1
theorem fX7_plainOctets_t {V : Vt} {o : Nat} (h : fX7 V o) : V.2.1 (o + 2) = 12 := h.2.2.1.2.2.1
theorem fX7_plainOctets_n {V : Vt} {o : Nat} (h : fX7 V o) : V.2.2.1 (o + 2) = 1024 := h.2.2.1.2.2.2
theorem fX7_doneOf {V : Vt} {o : Nat} (h : fX7 V o) : V.2.2.2 o 2 = some (o + 3) := h.2.2.2.1.1
theorem fX7_doneOf_l {V : Vt} {o : Nat} (h : fX7 V o) : o + 3 < V.1 := h.2.2.2.1.2.1
theorem fX7_doneOf_t {V : Vt} {o : Nat} (h : fX7 V o) : V.2.1 (o + 3) = 12 := h.2.2.2.1.2.2.1
theorem fX7_doneOf_n {V : Vt} {o : Nat} (h : fX7 V o) : V.2.2.1 (o + 3) = 4 := h.2.2.2.1.2.2.2
theorem fX7_worstWaits {V : Vt} {o : Nat} (h : fX7 V o) : V.2.2.2 o 3 = some (o + 4) := h.2.2.2.2.1
theorem fX7_worstWaits_l {V : Vt} {o : Nat} (h : fX7 V o) : o + 4 < V.1 := h.2.2.2.2.2.1
theorem fX7_worstWaits_t {V : Vt} {o : Nat} (h : fX7 V o) : V.2.1 (o + 4) = 12 := h.2.2.2.2.2.2.1
theorem fX7_worstWaits_n {V : Vt} {o : Nat} (h : fX7 V o) : V.2.2.1 (o + 4) = 4 := h.2.2.2.2.2.2.2
def fX1 (V : Vt) (o : Nat) : Prop := (o < V.1 ∧ V.2.1 o = 0) ∧ (V.2.2.2 o 0 = some (o + 1) ∧ o + 1 < V.1 ∧ V.2.1 (o + 1) = 12 ∧ V.2.2.1 (o + 1) = 400) ∧ (V.2.2.2 o 1 = some (o + 2) ∧ o + 2 < V.1 ∧ V.2.1 (o + 2) = 12 ∧ V.2.2.1 (o + 2) = 400) ∧ (V.2.2.2 o 2 = some (o + 3) ∧ o + 3 < V.1 ∧ V.2.1 (o + 3) = 12 ∧ V.2.2.1 (o + 3) = 400) ∧ (V.2.2.2 o 3 = some (o + 4) ∧ o + 4 < V.1 ∧ V.2.1 (o + 4) = 12 ∧ V.2.2.1 (o + 4) = 400) ∧ (V.2.2.2 o 4 = some (o + 5) ∧ o + 5 < V.1 ∧ V.2.1 (o + 5) = 12 ∧ V.2.2.1 (o + 5) = 400) ∧ (V.2.2.2 o 5 = some (o + 6) ∧ o + 6 < V.1 ∧ V.2.1 (o + 6) = 12 ∧ V.2.2.1 (o + 6) = 400) ∧ (V.2.2.2 o 6 = some (o + 7) ∧ fX5 V (o + 7))
theorem fX1_o {V : Vt} {o : Nat} (h : fX1 V o) : o < V.1 := h.1.1
theorem fX1_c {V : Vt} {o : Nat} (h : fX1 V o) : V.2.1 o = 0 := h.1.2
theorem fX1_ticks {V : Vt} {o : Nat} (h : fX1 V o) : V.2.2.2 o 0 = some (o + 1) := h.2.1.1
theorem fX1_ticks_l {V : Vt} {o : Nat} (h : fX1 V o) : o + 1 < V.1 := h.2.1.2.1
theorem fX1_ticks_t {V : Vt} {o : Nat} (h : fX1 V o) : V.2.1 (o + 1) = 12 := h.2.1.2.2.1
theorem fX1_ticks_n {V : Vt} {o : Nat} (h : fX1 V o) : V.2.2.1 (o + 1) = 400 := h.2.1.2.2.2
theorem fX1_forged {V : Vt} {o : Nat} (h : fX1 V o) : V.2.2.2 o 1 = some (o + 2) := h.2.2.1.1
theorem fX1_forged_l {V : Vt} {o : Nat} (h : fX1 V o) : o + 2 < V.1 := h.2.2.1.2.1
theorem fX1_forged_t {V : Vt} {o : Nat} (h : fX1 V o) : V.2.1 (o + 2) = 12 := h.2.2.1.2.2.1
theorem fX1_forged_n {V : Vt} {o : Nat} (h : fX1 V o) : V.2.2.1 (o + 2) = 400 := h.2.2.1.2.2.2
theorem fX1_which {V : Vt} {o : Nat} (h : fX1 V o) : V.2.2.2 o 2 = some (o + 3) := h.2.2.2.1.1
theorem fX1_which_l {V : Vt} {o : Nat} (h : fX1 V o) : o + 3 < V.1 := h.2.2.2.1.2.1
theorem fX1_which_t {V : Vt} {o : Nat} (h : fX1 V o) : V.2.1 (o + 3) = 12 := h.2.2.2.1.2.2.1
theorem fX1_which_n {V : Vt} {o : Nat} (h : fX1 V o) : V.2.2.1 (o + 3) = 400 := h.2.2.2.1.2.2.2
theorem fX1_banks {V : Vt} {o : Nat} (h : fX1 V o) : V.2.2.2 o 3 = some (o + 4) := h.2.2.2.2.1.1
theorem fX1_banks_l {V : Vt} {o : Nat} (h : fX1 V o) : o + 4 < V.1 := h.2.2.2.2.1.2.1
theorem fX1_banks_t {V : Vt} {o : Nat} (h : fX1 V o) : V.2.1 (o + 4) = 12 := h.2.2.2.2.1.2.2.1
theorem fX1_banks_n {V : Vt} {o : Nat} (h : fX1 V o) : V.2.2.1 (o + 4) = 400 := h.2.2.2.2.1.2.2.2
theorem fX1_wheres {V : Vt} {o : Nat} (h : fX1 V o) : V.2.2.2 o 4 = some (o + 5) := h.2.2.2.2.2.1.1
theorem fX1_wheres_l {V : Vt} {o : Nat} (h : fX1 V o) : o + 5 < V.1 := h.2.2.2.2.2.1.2.1
theorem fX1_wheres_t {V : Vt} {o : Nat} (h : fX1 V o) : V.2.1 (o + 5) = 12 := h.2.2.2.2.2.1.2.2.1
theorem fX1_wheres_n {V : Vt} {o : Nat} (h : fX1 V o) : V.2.2.1 (o + 5) = 400 := h.2.2.2.2.2.1.2.2.2
theorem fX1_asks {V : Vt} {o : Nat} (h : fX1 V o) : V.2.2.2 o 5 = some (o + 6) := h.2.2.2.2.2.2.1.1
theorem fX1_asks_l {V : Vt} {o : Nat} (h : fX1 V o) : o + 6 < V.1 := h.2.2.2.2.2.2.1.2.1
theorem fX1_asks_t {V : Vt} {o : Nat} (h : fX1 V o) : V.2.1 (o + 6) = 12 := h.2.2.2.2.2.2.1.2.2.1
theorem fX1_asks_n {V : Vt} {o : Nat} (h : fX1 V o) : V.2.2.1 (o + 6) = 400 := h.2.2.2.2.2.2.1.2.2.2
theorem fX1_checked {V : Vt} {o : Nat} (h : fX1 V o) : V.2.2.2 o 6 = some (o + 7) := h.2.2.2.2.2.2.2.1
theorem fX1_checked_s {V : Vt} {o : Nat} (h : fX1 V o) : fX5 V (o + 7) := h.2.2.2.2.2.2.2.2
def fX11 (V : Vt) (o : Nat) : Prop := (o < V.1 ∧ V.2.1 o = 10) ∧ (V.2.2.2 o 0 = some (o + 1) ∧ o + 1 < V.1 ∧ V.2.1 (o + 1) = 12 ∧ V.2.2.1 (o + 1) = 13) ∧ (V.2.2.2 o 1 = some (o + 2) ∧ fX5 V (o + 2)) ∧ (V.2.2.2 o 2 = some (o + 10) ∧ fX1 V (o + 10)) ∧ (V.2.2.2 o 3 = some (o + 25) ∧ fX4 V (o + 25)) ∧ (V.2.2.2 o 4 = some (o + 28) ∧ fX7 V (o + 28)) ∧ (V.2.2.2 o 5 = some (o + 33) ∧ o + 33 < V.1 ∧ V.2.1 (o + 33) = 14 ∧ V.2.2.1 (o + 33) = 8)
theorem fX11_o {V : Vt} {o : Nat} (h : fX11 V o) : o < V.1 := h.1.1
theorem fX11_c {V : Vt} {o : Nat} (h : fX11 V o) : V.2.1 o = 10 := h.1.2
theorem fX11_times {V : Vt} {o : Nat} (h : fX11 V o) : V.2.2.2 o 0 = some (o + 1) := h.2.1.1
theorem fX11_times_l {V : Vt} {o : Nat} (h : fX11 V o) : o + 1 < V.1 := h.2.1.2.1
theorem fX11_times_t {V : Vt} {o : Nat} (h : fX11 V o) : V.2.1 (o + 1) = 12 := h.2.1.2.2.1
theorem fX11_times_n {V : Vt} {o : Nat} (h : fX11 V o) : V.2.2.1 (o + 1) = 13 := h.2.1.2.2.2
theorem fX11_past {V : Vt} {o : Nat} (h : fX11 V o) : V.2.2.2 o 1 = some (o + 2) := h.2.2.1.1
theorem fX11_past_s {V : Vt} {o : Nat} (h : fX11 V o) : fX5 V (o + 2) := h.2.2.1.2
theorem fX11_commandLog {V : Vt} {o : Nat} (h : fX11 V o) : V.2.2.2 o 2 = some (o + 10) := h.2.2.2.1.1
theorem fX11_commandLog_s {V : Vt} {o : Nat} (h : fX11 V o) : fX1 V (o + 10) := h.2.2.2.1.2
theorem fX11_memory {V : Vt} {o : Nat} (h : fX11 V o) : V.2.2.2 o 3 = some (o + 25) := h.2.2.2.2.1.1
theorem fX11_memory_s {V : Vt} {o : Nat} (h : fX11 V o) : fX4 V (o + 25) := h.2.2.2.2.1.2
theorem fX11_queue {V : Vt} {o : Nat} (h : fX11 V o) : V.2.2.2 o 4 = some (o + 28) := h.2.2.2.2.2.1.1
theorem fX11_queue_s {V : Vt} {o : Nat} (h : fX11 V o) : fX7 V (o + 28) := h.2.2.2.2.2.1.2
theorem fX11_shelves {V : Vt} {o : Nat} (h : fX11 V o) : V.2.2.2 o 5 = some (o + 33) := h.2.2.2.2.2.2.1
theorem fX11_shelves_l {V : Vt} {o : Nat} (h : fX11 V o) : o + 33 < V.1 := h.2.2.2.2.2.2.2.1
theorem fX11_shelves_t {V : Vt} {o : Nat} (h : fX11 V o) : V.2.1 (o + 33) = 14 := h.2.2.2.2.2.2.2.2.1
theorem fX11_shelves_n {V : Vt} {o : Nat} (h : fX11 V o) : V.2.2.1 (o + 33) = 8 := h.2.2.2.2.2.2.2.2.2
def fX12 (V : Vt) (o : Nat) : Prop := (o < V.1 ∧ V.2.1 o = 11) ∧ (V.2.2.2 o 1 = some (o + 1) ∧ o + 1 < V.1 ∧ V.2.1 (o + 1) = 12 ∧ V.2.2.1 (o + 1) = 13) ∧ (V.2.2.2 o 11 = some (o + 2) ∧ o + 2 < V.1 ∧ V.2.1 (o + 2) = 12 ∧ V.2.2.1 (o + 2) = 4) ∧ (V.2.2.2 o 12 = some (o + 3) ∧ o + 3 < V.1 ∧ V.2.1 (o + 3) = 12 ∧ V.2.2.1 (o + 3) = 1024) ∧ (V.2.2.2 o 15 = some (o + 4) ∧ o + 4 < V.1 ∧ V.2.1 (o + 4) = 12 ∧ V.2.2.1 (o + 4) = 400) ∧ (V.2.2.2 o 16 = some (o + 5) ∧ o + 5 < V.1 ∧ V.2.1 (o + 5) = 12 ∧ V.2.2.1 (o + 5) = 400) ∧ (V.2.2.2 o 17 = some (o + 6) ∧ o + 6 < V.1 ∧ V.2.1 (o + 6) = 12 ∧ V.2.2.1 (o + 6) = 400) ∧ (V.2.2.2 o 18 = some (o + 7) ∧ o + 7 < V.1 ∧ V.2.1 (o + 7) = 12 ∧ V.2.2.1 (o + 7) = 400) ∧ (V.2.2.2 o 19 = some (o + 8) ∧ o + 8 < V.1 ∧ V.2.1 (o + 8) = 12 ∧ V.2.2.1 (o + 8) = 400) ∧ (V.2.2.2 o 20 = some (o + 9) ∧ o + 9 < V.1 ∧ V.2.1 (o + 9) = 12 ∧ V.2.2.1 (o + 9) = 400) ∧ (V.2.2.2 o 21 = some (o + 10) ∧ o + 10 < V.1 ∧ V.2.1 (o + 10) = 12 ∧ V.2.2.1 (o + 10) = 400) ∧ (V.2.2.2 o 22 = some (o + 11) ∧ o + 11 < V.1 ∧ V.2.1 (o + 11) = 12 ∧ V.2.2.1 (o + 11) = 400) ∧ (V.2.2.2 o 23 = some (o + 12) ∧ o + 12 < V.1 ∧ V.2.1 (o + 12) = 12 ∧ V.2.2.1 (o + 12) = 4) ∧ (V.2.2.2 o 27 = some (o + 13) ∧ o + 13 < V.1 ∧ V.2.1 (o + 13) = 12 ∧ V.2.2.1 (o + 13) = 40) ∧ (V.2.2.2 o 28 = some (o + 14) ∧ o + 14 < V.1 ∧ V.2.1 (o + 14) = 12 ∧ V.2.2.1 (o + 14) = 40) ∧ (V.2.2.2 o 29 = some (o + 15) ∧ o + 15 < V.1 ∧ V.2.1 (o + 15) = 12 ∧ V.2.2.1 (o + 15) = 40) ∧ (V.2.2.2 o 31 = some (o + 16) ∧ o + 16 < V.1 ∧ V.2.1 (o + 16) = 12 ∧ V.2.2.1 (o + 16) = 400) ∧ (V.2.2.2 o 32 = some (o + 17) ∧ o + 17 < V.1 ∧ V.2.1 (o + 17) = 12 ∧ V.2.2.1 (o + 17) = 400) ∧ (V.2.2.2 o 33 = some (o + 18) ∧ o + 18 < V.1 ∧ V.2.1 (o + 18) = 12 ∧ V.2.2.1 (o + 18) = 400) ∧ (V.2.2.2 o 34 = some (o + 19) ∧ o + 19 < V.1 ∧ V.2.1 (o + 19) = 12 ∧ V.2.2.1 (o + 19) = 400) ∧ (V.2.2.2 o 35 = some (o + 20) ∧ o + 20 < V.1 ∧ V.2.1 (o + 20) = 12 ∧ V.2.2.1 (o + 20) = 400) ∧ (V.2.2.2 o 36 = some (o + 21) ∧ o + 21 < V.1 ∧ V.2.1 (o + 21) = 12 ∧ V.2.2.1 (o + 21) = 400) ∧ (V.2.2.2 o 38 = some (o + 22) ∧ o + 22 < V.1 ∧ V.2.1 (o + 22) = 12 ∧ V.2.2.1 (o + 22) = 12) ∧ (V.2.2.2 o 43 = some (o + 23) ∧ o + 23 < V.1 ∧ V.2.1 (o + 23) = 12 ∧ V.2.2.1 (o + 23) = 400) ∧ (V.2.2.2 o 44 = some (o + 24) ∧ o + 24 < V.1 ∧ V.2.1 (o + 24) = 12 ∧ V.2.2.1 (o + 24) = 1024) ∧ (V.2.2.2 o 45 = some (o + 25) ∧ o + 25 < V.1 ∧ V.2.1 (o + 25) = 12 ∧ V.2.2.1 (o + 25) = 8) ∧ (V.2.2.2 o 46 = some (o + 26) ∧ o + 26 < V.1 ∧ V.2.1 (o + 26) = 12 ∧ V.2.2.1 (o + 26) = 8) ∧ (V.2.2.2 o 47 = some (o + 27) ∧ o + 27 < V.1 ∧ V.2.1 (o + 27) = 12 ∧ V.2.2.1 (o + 27) = 8) ∧ (V.2.2.2 o 48 = some (o + 28) ∧ o + 28 < V.1 ∧ V.2.1 (o + 28) = 12 ∧ V.2.2.1 (o + 28) = 480) ∧ (V.2.2.2 o 49 = some (o + 29) ∧ o + 29 < V.1 ∧ V.2.1 (o + 29) = 12 ∧ V.2.2.1 (o + 29) = 60)
theorem fX12_o {V : Vt} {o : Nat} (h : fX12 V o) : o < V.1 := h.1.1
theorem fX12_c {V : Vt} {o : Nat} (h : fX12 V o) : V.2.1 o = 11 := h.1.2
theorem fX12_time {V : Vt} {o : Nat} (h : fX12 V o) : V.2.2.2 o 1 = some (o + 1) := h.2.1.1
theorem fX12_time_l {V : Vt} {o : Nat} (h : fX12 V o) : o + 1 < V.1 := h.2.1.2.1
theorem fX12_time_t {V : Vt} {o : Nat} (h : fX12 V o) : V.2.1 (o + 1) = 12 := h.2.1.2.2.1
theorem fX12_time_n {V : Vt} {o : Nat} (h : fX12 V o) : V.2.2.1 (o + 1) = 13 := h.2.1.2.2.2
theorem fX12_row {V : Vt} {o : Nat} (h : fX12 V o) : V.2.2.2 o 11 = some (o + 2) := h.2.2.1.1
theorem fX12_row_l {V : Vt} {o : Nat} (h : fX12 V o) : o + 2 < V.1 := h.2.2.1.2.1
theorem fX12_row_t {V : Vt} {o : Nat} (h : fX12 V o) : V.2.1 (o + 2) = 12 := h.2.2.1.2.2.1
theorem fX12_row_n {V : Vt} {o : Nat} (h : fX12 V o) : V.2.2.1 (o + 2) = 4 := h.2.2.1.2.2.2
theorem fX12_memory {V : Vt} {o : Nat} (h : fX12 V o) : V.2.2.2 o 12 = some (o + 3) := h.2.2.2.1.1
theorem fX12_memory_l {V : Vt} {o : Nat} (h : fX12 V o) : o + 3 < V.1 := h.2.2.2.1.2.1
theorem fX12_memory_t {V : Vt} {o : Nat} (h : fX12 V o) : V.2.1 (o + 3) = 12 := h.2.2.2.1.2.2.1
theorem fX12_memory_n {V : Vt} {o : Nat} (h : fX12 V o) : V.2.2.1 (o + 3) = 1024 := h.2.2.2.1.2.2.2
theorem fX12_kind {V : Vt} {o : Nat} (h : fX12 V o) : V.2.2.2 o 15 = some (o + 4) := h.2.2.2.2.1.1
theorem fX12_kind_l {V : Vt} {o : Nat} (h : fX12 V o) : o + 4 < V.1 := h.2.2.2.2.1.2.1
theorem fX12_kind_t {V : Vt} {o : Nat} (h : fX12 V o) : V.2.1 (o + 4) = 12 := h.2.2.2.2.1.2.2.1
theorem fX12_kind_n {V : Vt} {o : Nat} (h : fX12 V o) : V.2.2.1 (o + 4) = 400 := h.2.2.2.2.1.2.2.2
theorem fX12_asker {V : Vt} {o : Nat} (h : fX12 V o) : V.2.2.2 o 16 = some (o + 5) := h.2.2.2.2.2.1.1
theorem fX12_asker_l {V : Vt} {o : Nat} (h : fX12 V o) : o + 5 < V.1 := h.2.2.2.2.2.1.2.1
theorem fX12_asker_t {V : Vt} {o : Nat} (h : fX12 V o) : V.2.1 (o + 5) = 12 := h.2.2.2.2.2.1.2.2.1
theorem fX12_asker_n {V : Vt} {o : Nat} (h : fX12 V o) : V.2.2.1 (o + 5) = 400 := h.2.2.2.2.2.1.2.2.2
theorem fX12_address {V : Vt} {o : Nat} (h : fX12 V o) : V.2.2.2 o 17 = some (o + 6) := h.2.2.2.2.2.2.1.1
theorem fX12_address_l {V : Vt} {o : Nat} (h : fX12 V o) : o + 6 < V.1 := h.2.2.2.2.2.2.1.2.1
theorem fX12_address_t {V : Vt} {o : Nat} (h : fX12 V o) : V.2.1 (o + 6) = 12 := h.2.2.2.2.2.2.1.2.2.1
theorem fX12_address_n {V : Vt} {o : Nat} (h : fX12 V o) : V.2.2.1 (o + 6) = 400 := h.2.2.2.2.2.2.1.2.2.2
theorem fX12_value {V : Vt} {o : Nat} (h : fX12 V o) : V.2.2.2 o 18 = some (o + 7) := h.2.2.2.2.2.2.2.1.1
theorem fX12_value_l {V : Vt} {o : Nat} (h : fX12 V o) : o + 7 < V.1 := h.2.2.2.2.2.2.2.1.2.1
theorem fX12_value_t {V : Vt} {o : Nat} (h : fX12 V o) : V.2.1 (o + 7) = 12 := h.2.2.2.2.2.2.2.1.2.2.1
theorem fX12_value_n {V : Vt} {o : Nat} (h : fX12 V o) : V.2.2.1 (o + 7) = 400 := h.2.2.2.2.2.2.2.1.2.2.2
theorem fX12_bits {V : Vt} {o : Nat} (h : fX12 V o) : V.2.2.2 o 19 = some (o + 8) := h.2.2.2.2.2.2.2.2.1.1
theorem fX12_bits_l {V : Vt} {o : Nat} (h : fX12 V o) : o + 8 < V.1 := h.2.2.2.2.2.2.2.2.1.2.1
theorem fX12_bits_t {V : Vt} {o : Nat} (h : fX12 V o) : V.2.1 (o + 8) = 12 := h.2.2.2.2.2.2.2.2.1.2.2.1
theorem fX12_bits_n {V : Vt} {o : Nat} (h : fX12 V o) : V.2.2.1 (o + 8) = 400 := h.2.2.2.2.2.2.2.2.1.2.2.2
theorem fX12_came {V : Vt} {o : Nat} (h : fX12 V o) : V.2.2.2 o 20 = some (o + 9) := h.2.2.2.2.2.2.2.2.2.1.1
theorem fX12_came_l {V : Vt} {o : Nat} (h : fX12 V o) : o + 9 < V.1 := h.2.2.2.2.2.2.2.2.2.1.2.1
theorem fX12_came_t {V : Vt} {o : Nat} (h : fX12 V o) : V.2.1 (o + 9) = 12 := h.2.2.2.2.2.2.2.2.2.1.2.2.1
theorem fX12_came_n {V : Vt} {o : Nat} (h : fX12 V o) : V.2.2.1 (o + 9) = 400 := h.2.2.2.2.2.2.2.2.2.1.2.2.2
theorem fX12_done {V : Vt} {o : Nat} (h : fX12 V o) : V.2.2.2 o 21 = some (o + 10) := h.2.2.2.2.2.2.2.2.2.2.1.1
theorem fX12_done_l {V : Vt} {o : Nat} (h : fX12 V o) : o + 10 < V.1 := h.2.2.2.2.2.2.2.2.2.2.1.2.1
theorem fX12_done_t {V : Vt} {o : Nat} (h : fX12 V o) : V.2.1 (o + 10) = 12 := h.2.2.2.2.2.2.2.2.2.2.1.2.2.1
theorem fX12_done_n {V : Vt} {o : Nat} (h : fX12 V o) : V.2.2.1 (o + 10) = 400 := h.2.2.2.2.2.2.2.2.2.2.1.2.2.2
theorem fX12_answer {V : Vt} {o : Nat} (h : fX12 V o) : V.2.2.2 o 22 = some (o + 11) := h.2.2.2.2.2.2.2.2.2.2.2.1.1
theorem fX12_answer_l {V : Vt} {o : Nat} (h : fX12 V o) : o + 11 < V.1 := h.2.2.2.2.2.2.2.2.2.2.2.1.2.1
theorem fX12_answer_t {V : Vt} {o : Nat} (h : fX12 V o) : V.2.1 (o + 11) = 12 := h.2.2.2.2.2.2.2.2.2.2.2.1.2.2.1
theorem fX12_answer_n {V : Vt} {o : Nat} (h : fX12 V o) : V.2.2.1 (o + 11) = 400 := h.2.2.2.2.2.2.2.2.2.2.2.1.2.2.2
theorem fX12_doneOf {V : Vt} {o : Nat} (h : fX12 V o) : V.2.2.2 o 23 = some (o + 12) := h.2.2.2.2.2.2.2.2.2.2.2.2.1.1
theorem fX12_doneOf_l {V : Vt} {o : Nat} (h : fX12 V o) : o + 12 < V.1 := h.2.2.2.2.2.2.2.2.2.2.2.2.1.2.1
theorem fX12_doneOf_t {V : Vt} {o : Nat} (h : fX12 V o) : V.2.1 (o + 12) = 12 := h.2.2.2.2.2.2.2.2.2.2.2.2.1.2.2.1
theorem fX12_doneOf_n {V : Vt} {o : Nat} (h : fX12 V o) : V.2.2.1 (o + 12) = 4 := h.2.2.2.2.2.2.2.2.2.2.2.2.1.2.2.2
theorem fX12_recentTick {V : Vt} {o : Nat} (h : fX12 V o) : V.2.2.2 o 27 = some (o + 13) := h.2.2.2.2.2.2.2.2.2.2.2.2.2.1.1
theorem fX12_recentTick_l {V : Vt} {o : Nat} (h : fX12 V o) : o + 13 < V.1 := h.2.2.2.2.2.2.2.2.2.2.2.2.2.1.2.1
theorem fX12_recentTick_t {V : Vt} {o : Nat} (h : fX12 V o) : V.2.1 (o + 13) = 12 := h.2.2.2.2.2.2.2.2.2.2.2.2.2.1.2.2.1
theorem fX12_recentTick_n {V : Vt} {o : Nat} (h : fX12 V o) : V.2.2.1 (o + 13) = 40 := h.2.2.2.2.2.2.2.2.2.2.2.2.2.1.2.2.2
theorem fX12_recentWhat {V : Vt} {o : Nat} (h : fX12 V o) : V.2.2.2 o 28 = some (o + 14) := h.2.2.2.2.2.2.2.2.2.2.2.2.2.2.1.1
theorem fX12_recentWhat_l {V : Vt} {o : Nat} (h : fX12 V o) : o + 14 < V.1 := h.2.2.2.2.2.2.2.2.2.2.2.2.2.2.1.2.1
theorem fX12_recentWhat_t {V : Vt} {o : Nat} (h : fX12 V o) : V.2.1 (o + 14) = 12 := h.2.2.2.2.2.2.2.2.2.2.2.2.2.2.1.2.2.1
theorem fX12_recentWhat_n {V : Vt} {o : Nat} (h : fX12 V o) : V.2.2.1 (o + 14) = 40 := h.2.2.2.2.2.2.2.2.2.2.2.2.2.2.1.2.2.2
theorem fX12_recentBank {V : Vt} {o : Nat} (h : fX12 V o) : V.2.2.2 o 29 = some (o + 15) := h.2.2.2.2.2.2.2.2.2.2.2.2.2.2.2.1.1
theorem fX12_recentBank_l {V : Vt} {o : Nat} (h : fX12 V o) : o + 15 < V.1 := h.2.2.2.2.2.2.2.2.2.2.2.2.2.2.2.1.2.1
theorem fX12_recentBank_t {V : Vt} {o : Nat} (h : fX12 V o) : V.2.1 (o + 15) = 12 := h.2.2.2.2.2.2.2.2.2.2.2.2.2.2.2.1.2.2.1
theorem fX12_recentBank_n {V : Vt} {o : Nat} (h : fX12 V o) : V.2.2.1 (o + 15) = 40 := h.2.2.2.2.2.2.2.2.2.2.2.2.2.2.2.1.2.2.2
theorem fX12_logTick {V : Vt} {o : Nat} (h : fX12 V o) : V.2.2.2 o 31 = some (o + 16) := h.2.2.2.2.2.2.2.2.2.2.2.2.2.2.2.2.1.1
theorem fX12_logTick_l {V : Vt} {o : Nat} (h : fX12 V o) : o + 16 < V.1 := h.2.2.2.2.2.2.2.2.2.2.2.2.2.2.2.2.1.2.1
theorem fX12_logTick_t {V : Vt} {o : Nat} (h : fX12 V o) : V.2.1 (o + 16) = 12 := h.2.2.2.2.2.2.2.2.2.2.2.2.2.2.2.2.1.2.2.1
theorem fX12_logTick_n {V : Vt} {o : Nat} (h : fX12 V o) : V.2.2.1 (o + 16) = 400 := h.2.2.2.2.2.2.2.2.2.2.2.2.2.2.2.2.1.2.2.2
theorem fX12_logForged {V : Vt} {o : Nat} (h : fX12 V o) : V.2.2.2 o 32 = some (o + 17) := h.2.2.2.2.2.2.2.2.2.2.2.2.2.2.2.2.2.1.1
theorem fX12_logForged_l {V : Vt} {o : Nat} (h : fX12 V o) : o + 17 < V.1 := h.2.2.2.2.2.2.2.2.2.2.2.2.2.2.2.2.2.1.2.1
theorem fX12_logForged_t {V : Vt} {o : Nat} (h : fX12 V o) : V.2.1 (o + 17) = 12 := h.2.2.2.2.2.2.2.2.2.2.2.2.2.2.2.2.2.1.2.2.1
theorem fX12_logForged_n {V : Vt} {o : Nat} (h : fX12 V o) : V.2.2.1 (o + 17) = 400 := h.2.2.2.2.2.2.2.2.2.2.2.2.2.2.2.2.2.1.2.2.2
theorem fX12_logWhat {V : Vt} {o : Nat} (h : fX12 V o) : V.2.2.2 o 33 = some (o + 18) := h.2.2.2.2.2.2.2.2.2.2.2.2.2.2.2.2.2.2.1.1
theorem fX12_logWhat_l {V : Vt} {o : Nat} (h : fX12 V o) : o + 18 < V.1 := h.2.2.2.2.2.2.2.2.2.2.2.2.2.2.2.2.2.2.1.2.1
theorem fX12_logWhat_t {V : Vt} {o : Nat} (h : fX12 V o) : V.2.1 (o + 18) = 12 := h.2.2.2.2.2.2.2.2.2.2.2.2.2.2.2.2.2.2.1.2.2.1
theorem fX12_logWhat_n {V : Vt} {o : Nat} (h : fX12 V o) : V.2.2.1 (o + 18) = 400 := h.2.2.2.2.2.2.2.2.2.2.2.2.2.2.2.2.2.2.1.2.2.2
theorem fX12_logBank {V : Vt} {o : Nat} (h : fX12 V o) : V.2.2.2 o 34 = some (o + 19) := h.2.2.2.2.2.2.2.2.2.2.2.2.2.2.2.2.2.2.2.1.1
theorem fX12_logBank_l {V : Vt} {o : Nat} (h : fX12 V o) : o + 19 < V.1 := h.2.2.2.2.2.2.2.2.2.2.2.2.2.2.2.2.2.2.2.1.2.1
theorem fX12_logBank_t {V : Vt} {o : Nat} (h : fX12 V o) : V.2.1 (o + 19) = 12 := h.2.2.2.2.2.2.2.2.2.2.2.2.2.2.2.2.2.2.2.1.2.2.1
theorem fX12_logBank_n {V : Vt} {o : Nat} (h : fX12 V o) : V.2.2.1 (o + 19) = 400 := h.2.2.2.2.2.2.2.2.2.2.2.2.2.2.2.2.2.2.2.1.2.2.2
theorem fX12_logPlace {V : Vt} {o : Nat} (h : fX12 V o) : V.2.2.2 o 35 = some (o + 20) := h.2.2.2.2.2.2.2.2.2.2.2.2.2.2.2.2.2.2.2.2.1.1
theorem fX12_logPlace_l {V : Vt} {o : Nat} (h : fX12 V o) : o + 20 < V.1 := h.2.2.2.2.2.2.2.2.2.2.2.2.2.2.2.2.2.2.2.2.1.2.1
theorem fX12_logPlace_t {V : Vt} {o : Nat} (h : fX12 V o) : V.2.1 (o + 20) = 12 := h.2.2.2.2.2.2.2.2.2.2.2.2.2.2.2.2.2.2.2.2.1.2.2.1
theorem fX12_logPlace_n {V : Vt} {o : Nat} (h : fX12 V o) : V.2.2.1 (o + 20) = 400 := h.2.2.2.2.2.2.2.2.2.2.2.2.2.2.2.2.2.2.2.2.1.2.2.2
theorem fX12_logAsk {V : Vt} {o : Nat} (h : fX12 V o) : V.2.2.2 o 36 = some (o + 21) := h.2.2.2.2.2.2.2.2.2.2.2.2.2.2.2.2.2.2.2.2.2.1.1
theorem fX12_logAsk_l {V : Vt} {o : Nat} (h : fX12 V o) : o + 21 < V.1 := h.2.2.2.2.2.2.2.2.2.2.2.2.2.2.2.2.2.2.2.2.2.1.2.1
theorem fX12_logAsk_t {V : Vt} {o : Nat} (h : fX12 V o) : V.2.1 (o + 21) = 12 := h.2.2.2.2.2.2.2.2.2.2.2.2.2.2.2.2.2.2.2.2.2.1.2.2.1
theorem fX12_logAsk_n {V : Vt} {o : Nat} (h : fX12 V o) : V.2.2.1 (o + 21) = 400 := h.2.2.2.2.2.2.2.2.2.2.2.2.2.2.2.2.2.2.2.2.2.1.2.2.2
theorem fX12_row0 {V : Vt} {o : Nat} (h : fX12 V o) : V.2.2.2 o 38 = some (o + 22) := h.2.2.2.2.2.2.2.2.2.2.2.2.2.2.2.2.2.2.2.2.2.2.1.1
theorem fX12_row0_l {V : Vt} {o : Nat} (h : fX12 V o) : o + 22 < V.1 := h.2.2.2.2.2.2.2.2.2.2.2.2.2.2.2.2.2.2.2.2.2.2.1.2.1
theorem fX12_row0_t {V : Vt} {o : Nat} (h : fX12 V o) : V.2.1 (o + 22) = 12 := h.2.2.2.2.2.2.2.2.2.2.2.2.2.2.2.2.2.2.2.2.2.2.1.2.2.1
theorem fX12_row0_n {V : Vt} {o : Nat} (h : fX12 V o) : V.2.2.1 (o + 22) = 12 := h.2.2.2.2.2.2.2.2.2.2.2.2.2.2.2.2.2.2.2.2.2.2.1.2.2.2
theorem fX12_kept {V : Vt} {o : Nat} (h : fX12 V o) : V.2.2.2 o 43 = some (o + 23) := h.2.2.2.2.2.2.2.2.2.2.2.2.2.2.2.2.2.2.2.2.2.2.2.1.1
theorem fX12_kept_l {V : Vt} {o : Nat} (h : fX12 V o) : o + 23 < V.1 := h.2.2.2.2.2.2.2.2.2.2.2.2.2.2.2.2.2.2.2.2.2.2.2.1.2.1
theorem fX12_kept_t {V : Vt} {o : Nat} (h : fX12 V o) : V.2.1 (o + 23) = 12 := h.2.2.2.2.2.2.2.2.2.2.2.2.2.2.2.2.2.2.2.2.2.2.2.1.2.2.1
theorem fX12_kept_n {V : Vt} {o : Nat} (h : fX12 V o) : V.2.2.1 (o + 23) = 400 := h.2.2.2.2.2.2.2.2.2.2.2.2.2.2.2.2.2.2.2.2.2.2.2.1.2.2.2
theorem fX12_plain {V : Vt} {o : Nat} (h : fX12 V o) : V.2.2.2 o 44 = some (o + 24) := h.2.2.2.2.2.2.2.2.2.2.2.2.2.2.2.2.2.2.2.2.2.2.2.2.1.1
theorem fX12_plain_l {V : Vt} {o : Nat} (h : fX12 V o) : o + 24 < V.1 := h.2.2.2.2.2.2.2.2.2.2.2.2.2.2.2.2.2.2.2.2.2.2.2.2.1.2.1
theorem fX12_plain_t {V : Vt} {o : Nat} (h : fX12 V o) : V.2.1 (o + 24) = 12 := h.2.2.2.2.2.2.2.2.2.2.2.2.2.2.2.2.2.2.2.2.2.2.2.2.1.2.2.1
theorem fX12_plain_n {V : Vt} {o : Nat} (h : fX12 V o) : V.2.2.1 (o + 24) = 1024 := h.2.2.2.2.2.2.2.2.2.2.2.2.2.2.2.2.2.2.2.2.2.2.2.2.1.2.2.2
theorem fX12_shelf {V : Vt} {o : Nat} (h : fX12 V o) : V.2.2.2 o 45 = some (o + 25) := h.2.2.2.2.2.2.2.2.2.2.2.2.2.2.2.2.2.2.2.2.2.2.2.2.2.1.1
theorem fX12_shelf_l {V : Vt} {o : Nat} (h : fX12 V o) : o + 25 < V.1 := h.2.2.2.2.2.2.2.2.2.2.2.2.2.2.2.2.2.2.2.2.2.2.2.2.2.1.2.1
theorem fX12_shelf_t {V : Vt} {o : Nat} (h : fX12 V o) : V.2.1 (o + 25) = 12 := h.2.2.2.2.2.2.2.2.2.2.2.2.2.2.2.2.2.2.2.2.2.2.2.2.2.1.2.2.1
theorem fX12_shelf_n {V : Vt} {o : Nat} (h : fX12 V o) : V.2.2.1 (o + 25) = 8 := h.2.2.2.2.2.2.2.2.2.2.2.2.2.2.2.2.2.2.2.2.2.2.2.2.2.1.2.2.2
theorem fX12_shelfSize {V : Vt} {o : Nat} (h : fX12 V o) : V.2.2.2 o 46 = some (o + 26) := h.2.2.2.2.2.2.2.2.2.2.2.2.2.2.2.2.2.2.2.2.2.2.2.2.2.2.1.1
theorem fX12_shelfSize_l {V : Vt} {o : Nat} (h : fX12 V o) : o + 26 < V.1 := h.2.2.2.2.2.2.2.2.2.2.2.2.2.2.2.2.2.2.2.2.2.2.2.2.2.2.1.2.1
theorem fX12_shelfSize_t {V : Vt} {o : Nat} (h : fX12 V o) : V.2.1 (o + 26) = 12 := h.2.2.2.2.2.2.2.2.2.2.2.2.2.2.2.2.2.2.2.2.2.2.2.2.2.2.1.2.2.1
theorem fX12_shelfSize_n {V : Vt} {o : Nat} (h : fX12 V o) : V.2.2.1 (o + 26) = 8 := h.2.2.2.2.2.2.2.2.2.2.2.2.2.2.2.2.2.2.2.2.2.2.2.2.2.2.1.2.2.2
theorem fX12_shelfAsk {V : Vt} {o : Nat} (h : fX12 V o) : V.2.2.2 o 47 = some (o + 27) := h.2.2.2.2.2.2.2.2.2.2.2.2.2.2.2.2.2.2.2.2.2.2.2.2.2.2.2.1.1
theorem fX12_shelfAsk_l {V : Vt} {o : Nat} (h : fX12 V o) : o + 27 < V.1 := h.2.2.2.2.2.2.2.2.2.2.2.2.2.2.2.2.2.2.2.2.2.2.2.2.2.2.2.1.2.1
theorem fX12_shelfAsk_t {V : Vt} {o : Nat} (h : fX12 V o) : V.2.1 (o + 27) = 12 := h.2.2.2.2.2.2.2.2.2.2.2.2.2.2.2.2.2.2.2.2.2.2.2.2.2.2.2.1.2.2.1
theorem fX12_shelfAsk_n {V : Vt} {o : Nat} (h : fX12 V o) : V.2.2.1 (o + 27) = 8 := h.2.2.2.2.2.2.2.2.2.2.2.2.2.2.2.2.2.2.2.2.2.2.2.2.2.2.2.1.2.2.2
theorem fX12_shelfRow {V : Vt} {o : Nat} (h : fX12 V o) : V.2.2.2 o 48 = some (o + 28) := h.2.2.2.2.2.2.2.2.2.2.2.2.2.2.2.2.2.2.2.2.2.2.2.2.2.2.2.2.1.1
theorem fX12_shelfRow_l {V : Vt} {o : Nat} (h : fX12 V o) : o + 28 < V.1 := h.2.2.2.2.2.2.2.2.2.2.2.2.2.2.2.2.2.2.2.2.2.2.2.2.2.2.2.2.1.2.1
theorem fX12_shelfRow_t {V : Vt} {o : Nat} (h : fX12 V o) : V.2.1 (o + 28) = 12 := h.2.2.2.2.2.2.2.2.2.2.2.2.2.2.2.2.2.2.2.2.2.2.2.2.2.2.2.2.1.2.2.1
theorem fX12_shelfRow_n {V : Vt} {o : Nat} (h : fX12 V o) : V.2.2.1 (o + 28) = 480 := h.2.2.2.2.2.2.2.2.2.2.2.2.2.2.2.2.2.2.2.2.2.2.2.2.2.2.2.2.1.2.2.2
theorem fX12_between {V : Vt} {o : Nat} (h : fX12 V o) : V.2.2.2 o 49 = some (o + 29) := h.2.2.2.2.2.2.2.2.2.2.2.2.2.2.2.2.2.2.2.2.2.2.2.2.2.2.2.2.2.1
theorem fX12_between_l {V : Vt} {o : Nat} (h : fX12 V o) : o + 29 < V.1 := h.2.2.2.2.2.2.2.2.2.2.2.2.2.2.2.2.2.2.2.2.2.2.2.2.2.2.2.2.2.2.1
theorem fX12_between_t {V : Vt} {o : Nat} (h : fX12 V o) : V.2.1 (o + 29) = 12 := h.2.2.2.2.2.2.2.2.2.2.2.2.2.2.2.2.2.2.2.2.2.2.2.2.2.2.2.2.2.2.2.1
theorem fX12_between_n {V : Vt} {o : Nat} (h : fX12 V o) : V.2.2.1 (o + 29) = 60 := h.2.2.2.2.2.2.2.2.2.2.2.2.2.2.2.2.2.2.2.2.2.2.2.2.2.2.2.2.2.2.2.2
