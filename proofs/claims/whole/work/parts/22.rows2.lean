/-! ===== further rows: a long constant's index, private methods of nest mates, super, arraycopy ===== -/
def cpI (S : Me) (z0 sp z1 dp n : Nat) : Me := (fun a k => if a = z1 ∧ dp ≤ k ∧ k < dp + n then S.1 z0 (sp + (k - dp)) else S.1 a k, S.2)
theorem cpI_1 (S : Me) (z0 sp z1 dp n a k : Nat) : (cpI S z0 sp z1 dp n).1 a k = if a = z1 ∧ dp ≤ k ∧ k < dp + n then S.1 z0 (sp + (k - dp)) else S.1 a k := rfl
theorem cpI_2 (S : Me) (z0 sp z1 dp n : Nat) : (cpI S z0 sp z1 dp n).2 = S.2 := rfl
theorem uwCpN : Cond.native arraycopyName ∈ UW := uwT 196 (by decide +kernel) (by decide +kernel)
theorem uwCpS : Cond.static arraycopyName ∈ UW := uwT 195 (by decide +kernel) (by decide +kernel)
theorem uwCpI : Cond.initialized "java/lang/System" ∈ UW := uwT 7 (by decide +kernel) (by decide +kernel)
section GR
variable {p : Program} {l : Launch} {e : Env} {R : Room} {s : State} {m : MethodId} {args : Array Value} {below : List Frame} {meth : Method} {c : Code} {H : Heap} {locs : List Loc} {cells slots : Nat} {Q : State → Prop} {cc : ByteArray} {pc : Nat} {ls : Array Slot} {rest : List Value} {D : va_G} {cy : ClassId × ClassId × ClassId × ClassId} {A : Nat → Prop} {ad : Nat → Nat} {V : Vt} {S : Me} {own : String} {PL : List (Option (Int ⊕ Option Nat))}
theorem gx_ldcw (C : Cx p s m args meth c cc own D cy A) {n : Int} {index : Nat} (hw : Cond.constant own index (Int32.ofInt n) ∈ UW) (hdg : decode cc pc = .ok (.ldc_w index, 3)) (k : W p l e R s m args below meth c H locs cells slots Q (F0 m (pc + 3) ls (vI n :: rest))) : W p l e R s m args below meth c H locs cells slots Q (F0 m pc ls rest) := lv_ldcw C.1 C.2.1 C.2.2.1 (C.2.2.2.1 _ hw) hdg k
/-- invokevirtual of a nest mate's private method -/
theorem gx_callVN (C : Cx p s m args meth c cc own D cy A) (G : Gy D cy A s.heap ad V S H locs) (hlo : lo ad ls PL) (hml : c.maxLocals = PL.length) {y : MethodName} {host : String} {bc : ByteArray} {n fr lc na index : Nat} {rt : Option FieldType} {vs : List (Int ⊕ Option Nat)} {Qo : Option (Int ⊕ Option Nat) → Me → Prop} {r : Option Nat} {z : Nat}
    (hK : KM l D cy y bc n rt fr lc ad V S (.inr (some z) :: vs) Qo) (hz : r = some z) (hzl : z < V.1) {q9 : vw_C} (hc : vwCl[V.2.1 z]? = some q9) (ht : V.2.1 z < 12) (hy : y.cls = q9.1)
    (hcode : Cond.code y bc n rt ∈ UW) (hlink : Cond.methodLinkNest own index y host ∈ NW) (hinst : Cond.instanceMethod y ∈ UW) (hsel : Cond.selects q9.1 y y ∈ UW) (hini : Cond.initialized q9.1 ∈ UW)
    (hd : y.cls ≠ "java/lang/invoke/MethodHandle" ∧ y.cls ≠ "java/lang/invoke/VarHandle" ∧ (parseMethodDescriptor y.desc).map (fun d => d.parameters.length) = some na) (hR : fr + 1 ≤ R.frames ∧ 8 + (n + 11) + lc ≤ R.locals) (hRc : cells ≤ R.cells ∧ slots ≤ R.slots)
    (hn : vs.length = na) {st0 : List Value} (hst : st0 = (vs.map (vS ad)).reverse ++ vR ad r :: rest) (hW : (rest.map fun v => v.category).sum ≤ 8) (hdg : decode cc pc = .ok (.invokevirtual index, 3))
    (kk : ∀ (r : Option (Int ⊕ Option Nat)) (S' : Me) (H1 : Heap) (locs1 : List Loc), (∀ v, r = some v → okv V v) → Qo r S' → Gy D cy A s.heap ad V S' H1 locs1 → W p l e R s m args below meth c H1 locs1 cells slots Q (F0 m (pc + 3) ls ((r.map (vS ad)).toList ++ rest))) : W p l e R s m args below meth c H locs cells slots Q (F0 m pc ls st0) := by
  subst hz
  have hts := C.2.2.2.1
  refine gx_back C G (va_runVN (C := q9.1) (host := host) (b := ad z) (As := vs.map (vS ad)) (Ts := UW) (own := own) (nL := PL.length) ⟨C.1, C.2.1, hml, C.2.2.1, hts⟩ (hK H.size) ⟨va_cnB (ws' := UW) na hts (uw_in hcode) rfl rfl rfl (C.2.2.2.2.1.2 _ hlink) (by rw [hy]; exact hts _ hini) hd hR, hts _ hinst, hts _ hsel⟩ ⟨KM.blind (y := y) (cc := bc), va_recv C.2.2.2.2.1.1 G.1.1 hc (wo_o hzl ht), fun U hU hW => ⟨rfl, by rw [hU], by rw [hU]; exact G.1, Kx.warm hW C.2.2.2.2.1⟩⟩ rfl (by rw [List.length_map]; exact hn) hlo.1 hst (lv_room hW) hdg ⟨hRc.1, hRc.2⟩) kk
/-- super.m(..) -/
theorem gx_callSU (C : Cx p s m args meth c cc own D cy A) (G : Gy D cy A s.heap ad V S H locs) (hlo : lo ad ls PL) (hml : c.maxLocals = PL.length) {y : MethodName} {bc : ByteArray} {n fr lc na index : Nat} {rt : Option FieldType} {vs : List (Int ⊕ Option Nat)} {Qo : Option (Int ⊕ Option Nat) → Me → Prop} {r : Option Nat} {z : Nat}
    (hK : KM l D cy y bc n rt fr lc ad V S (.inr (some z) :: vs) Qo) (hz : r = some z) (hzl : z < V.1) (ht : V.2.1 z < 12)
    (hcode : Cond.code y bc n rt ∈ UW) (hlink : Cond.methodLink own index y ∈ UW) (hsm : Cond.sameMethod y.cls y.cls y.name y.desc ∈ UW) (hsu : Cond.superclass own y.cls ∈ UW) (hinst : Cond.instanceMethod y ∈ UW) (hini : Cond.initialized y.cls ∈ UW) (hno : y.name ≠ "<init>")
    (hd : y.cls ≠ "java/lang/invoke/MethodHandle" ∧ y.cls ≠ "java/lang/invoke/VarHandle" ∧ (parseMethodDescriptor y.desc).map (fun d => d.parameters.length) = some na) (hR : fr + 1 ≤ R.frames ∧ 8 + (n + 11) + lc ≤ R.locals) (hRc : cells ≤ R.cells ∧ slots ≤ R.slots)
    (hn : vs.length = na) {st0 : List Value} (hst : st0 = (vs.map (vS ad)).reverse ++ vR ad r :: rest) (hW : (rest.map fun v => v.category).sum ≤ 8) (hdg : decode cc pc = .ok (.invokespecial index, 3))
    (kk : ∀ (r : Option (Int ⊕ Option Nat)) (S' : Me) (H1 : Heap) (locs1 : List Loc), (∀ v, r = some v → okv V v) → Qo r S' → Gy D cy A s.heap ad V S' H1 locs1 → W p l e R s m args below meth c H1 locs1 cells slots Q (F0 m (pc + 3) ls ((r.map (vS ad)).toList ++ rest))) : W p l e R s m args below meth c H locs cells slots Q (F0 m pc ls st0) := by
  subst hz
  have hts := C.2.2.2.1
  obtain ⟨q9, hc⟩ : ∃ q9 : vw_C, vwCl[V.2.1 z]? = some q9 := ⟨_, List.getElem?_eq_getElem (by simpa [vwCl] using ht)⟩
  refine gx_back C G (va_runSU (C := q9.1) (cC := D.1 (V.2.1 z)) (b := ad z) (As := vs.map (vS ad)) (Ts := UW) (own := own) (nL := PL.length) (C.2.2.2.2.1.1.1 _ _ hc).2 ⟨C.1, C.2.1, hml, C.2.2.1, hts⟩ (hK H.size) ⟨⟨rfl, rfl, hR.1, hR.2, pay_in hts (uw_in hcode), List.mem_cons_self⟩, hts _ hlink, hts _ hsm, hts _ hsu, hts _ hinst, hts _ hini, hts _ hcode, hno, fun sig h => by have h2 := hd.2.2; rw [h] at h2; exact (Option.some.inj h2).symm⟩ ⟨KM.blind (y := y) (cc := bc), va_recv C.2.2.2.2.1.1 G.1.1 hc (wo_o hzl ht), fun U hU hW => ⟨rfl, by rw [hU], by rw [hU]; exact G.1, Kx.warm hW C.2.2.2.2.1⟩⟩ rfl (by rw [List.length_map]; exact hn) hlo.1 hst (lv_room hW) hdg ⟨hRc.1, hRc.2⟩) kk
theorem gx_copyi (C : Cx p s m args meth c cc own D cy A) (G : Gy D cy A s.heap ad V S H locs) (hlo : lo ad ls PL) (hml : c.maxLocals = PL.length) {r0 r1 : Option Nat} {z0 z1 : Nat} (hz0 : r0 = some z0) (hzl0 : z0 < V.1) (ht0 : V.2.1 z0 = 12) (hz1 : r1 = some z1) (hzl1 : z1 < V.1) (ht1 : V.2.1 z1 = 12) {sp dp n : Int} (rs : rng sp) (rd : rng dp) (rn : rng n) (h1 : 0 ≤ sp) (h2 : 0 ≤ dp) (h3 : 0 ≤ n) (h4 : sp + n ≤ (V.2.2.1 z0 : Int)) (h5 : dp + n ≤ (V.2.2.1 z1 : Int)) {index : Nat} (hlink : Cond.methodLink own index arraycopyName ∈ UW) (hR : 1 ≤ R.frames ∧ 8 + (nativeFrameWords "java/lang/System" "arraycopy" 5 + 11) ≤ R.locals) (hW : (rest.map fun v => v.category).sum ≤ 8) (hdg : decode cc pc = .ok (.invokestatic index, 3))
    (kk : ∀ (H1 : Heap) (locs1 : List Loc), Gy D cy A s.heap ad V (cpI S z0 sp.toNat z1 dp.toNat n.toNat) H1 locs1 → W p l e R s m args below meth c H1 locs1 cells slots Q (F0 m (pc + 3) ls rest)) : W p l e R s m args below meth c H locs cells slots Q (F0 m pc ls (vI n :: vI dp :: vR ad r1 :: vI sp :: vR ad r0 :: rest)) := by
  subst hz0 hz1
  have hts := C.2.2.2.1
  have q0 : rng 0 := by decide
  refine va_copyi C.1 C.2.1 (hml.trans hlo.1.symm) C.2.2.1 (hts _ hlink) (hts _ uwCpN) (hts _ uwCpS) (hts _ uwCpI) C.2.2.2.2.1.1 G.1.1 G.D G.2.2 z0 z1 0 0 (wo_i hzl0 ht0) (wo_i hzl1 ht1) rfl rfl rfl (fun h => absurd ((rg_lt rs q0).mp h) (by omega)) (fun h => absurd ((rg_lt rd q0).mp h) (by omega)) (fun h => absurd ((rg_lt rn q0).mp h) (by omega)) (by rw [rg_cl rs, rg_cl rn]; omega) (by rw [rg_cl rd, rg_cl rn]; omega) (fun _ _ => rfl) hR.1 (by omega) hdg (fun H1 locs1 hP _ hS => ?_)
  rw [rg_cl rs, rg_cl rd, rg_cl rn] at hP
  have hset : (wo cy ad V S).set z1 (ad z1, .inl (cy.1, V.2.2.1 z1, .inl (va_cpy (fun j => Int32.ofInt (S.1 z0 j)) (fun j => Int32.ofInt (S.1 z1 j)) sp.toNat dp.toNat n.toNat))) = wo cy ad V (cpI S z0 sp.toNat z1 dp.toNat n.toNat) := by
    refine wo_set hzl1 (fun b hb => ?_) (fun b _ => rfl) ?_
    · funext k
      rw [cpI_1, if_neg (fun h => hb h.1)]
    · rw [cf_i ht1]
      congr 3
      refine congrArg Sum.inl (funext fun j => ?_)
      rw [cpI_1]
      unfold va_cpy
      by_cases hj : dp.toNat ≤ j ∧ j < dp.toNat + n.toNat
      · rw [if_pos hj, if_pos ⟨rfl, hj⟩]
      · rw [if_neg hj, if_neg (fun h => hj h.2)]
  rw [hset] at hP
  refine kk H1 locs1 ⟨⟨hP, G.1.2.1, fun a k => ?_, G.1.2.2.2.1, G.1.2.2.2.2.1, G.1.2.2.2.2.2⟩, G.2.1, hS⟩
  rw [cpI_1]
  split
  · exact G.r _ _
  · exact G.r a k
end GR
