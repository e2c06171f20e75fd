/-! ===== rows that read and write the memory; calls; a method's entry and end ===== -/
section GM
variable {p : Program} {l : Launch} {e : Env} {R : Room} {s : State} {m : MethodId} {args : Array Value} {below : List Frame} {meth : Method} {c : Code} {H : Heap} {locs : List Loc} {cells slots : Nat} {Q : State → Prop} {cc : ByteArray} {pc : Nat} {ls : Array Slot} {rest : List Value} {D : va_G} {cy : ClassId × ClassId × ClassId × ClassId} {A : Nat → Prop} {ad : Nat → Nat} {V : Vt} {S : Me} {own : String} {PL : List (Option (Int ⊕ Option Nat))}
theorem wo_o {z : Nat} (hzl : z < V.1) (ht : V.2.1 z < 12) : (wo cy ad V S)[z]? = some (ad z, .inr (V.2.1 z, (fl (V.2.1 z)).map (fv ad (S.1 z) (S.2 z) (V.2.2.2 z)))) := by rw [wo_at hzl, cf_o ht]
theorem gx_getv (C : Cx p s m args meth c cc own D cy A) (G : Gy D cy A s.heap ad V S H locs) {r : Option Nat} {z : Nat} (hz : r = some z) (hzl : z < V.1) {kd j : Nat} {dcl nm ds : String} {fin : Bool} {ty : FieldType} (hF : ∃ k, FO (V.2.1 z) k kd j dcl nm ds fin ty) {ref : String} {index : Nat} (hl : Cond.fieldLink own index ref nm ds ∈ UW) (hsame : ∀ x, s.fieldFound? dcl nm ds = some x → s.fieldFound? ref nm ds = some x) (hdg : decode cc pc = .ok (.getfield index, 3)) {v : Value} (hv : fv ad (S.1 z) (S.2 z) (V.2.2.2 z) (kd, j) = v) (kk : W p l e R s m args below meth c H locs cells slots Q (F0 m (pc + 3) ls (v :: rest))) : W p l e R s m args below meth c H locs cells slots Q (F0 m pc ls (vR ad r :: rest)) := by
  subst hz
  obtain ⟨k, Cn, T, N, ty0, hc, hu, hty, hnm, hk, hT, hpd, ht, hfl⟩ := hF
  exact va_get (Ts := UW) C.1 C.2.1 C.2.2.2.1 hu C.2.2.1 C.2.2.2.2.1.1 G.1.1 z (wo_o hzl ht) hc k hk (by rw [hT]; exact C.2.2.2.1 _ hl) (by rw [hT]; exact hsame) (by rw [List.getElem?_map, hfl]; exact congrArg some hv) hdg kk
theorem gx_getI (C : Cx p s m args meth c cc own D cy A) (G : Gy D cy A s.heap ad V S H locs) {r : Option Nat} {z : Nat} (hz : r = some z) (hzl : z < V.1) {j : Nat} {dcl nm ds : String} {fin : Bool} {ty : FieldType} (hF : ∃ k, FO (V.2.1 z) k 0 j dcl nm ds fin ty) {ref : String} {index : Nat} (hl : Cond.fieldLink own index ref nm ds ∈ UW) (hsame : ∀ x, s.fieldFound? dcl nm ds = some x → s.fieldFound? ref nm ds = some x) (hdg : decode cc pc = .ok (.getfield index, 3)) (kk : W p l e R s m args below meth c H locs cells slots Q (F0 m (pc + 3) ls (vI (S.1 z j) :: rest))) : W p l e R s m args below meth c H locs cells slots Q (F0 m pc ls (vR ad r :: rest)) := gx_getv C G hz hzl hF hl hsame hdg rfl kk
theorem gx_getZ (C : Cx p s m args meth c cc own D cy A) (G : Gy D cy A s.heap ad V S H locs) {r : Option Nat} {z : Nat} (hz : r = some z) (hzl : z < V.1) {j : Nat} {dcl nm ds : String} {fin : Bool} {ty : FieldType} (hF : ∃ k, FO (V.2.1 z) k 3 j dcl nm ds fin ty) {ref : String} {index : Nat} (hl : Cond.fieldLink own index ref nm ds ∈ UW) (hsame : ∀ x, s.fieldFound? dcl nm ds = some x → s.fieldFound? ref nm ds = some x) (hdg : decode cc pc = .ok (.getfield index, 3)) (kk : W p l e R s m args below meth c H locs cells slots Q (F0 m (pc + 3) ls (vI (S.1 z j) :: rest))) : W p l e R s m args below meth c H locs cells slots Q (F0 m pc ls (vR ad r :: rest)) := gx_getv C G hz hzl hF hl hsame hdg rfl kk
theorem gx_getP (C : Cx p s m args meth c cc own D cy A) (G : Gy D cy A s.heap ad V S H locs) {r : Option Nat} {z : Nat} (hz : r = some z) (hzl : z < V.1) {j : Nat} {dcl nm ds : String} {fin : Bool} {ty : FieldType} (hF : ∃ k, FO (V.2.1 z) k 1 j dcl nm ds fin ty) {ref : String} {index : Nat} (hl : Cond.fieldLink own index ref nm ds ∈ UW) (hsame : ∀ x, s.fieldFound? dcl nm ds = some x → s.fieldFound? ref nm ds = some x) (hdg : decode cc pc = .ok (.getfield index, 3)) (kk : W p l e R s m args below meth c H locs cells slots Q (F0 m (pc + 3) ls (vR ad (S.2 z j) :: rest))) : W p l e R s m args below meth c H locs cells slots Q (F0 m pc ls (vR ad r :: rest)) := gx_getv C G hz hzl hF hl hsame hdg rfl kk
theorem gx_getF (C : Cx p s m args meth c cc own D cy A) (G : Gy D cy A s.heap ad V S H locs) {r : Option Nat} {z w : Nat} (hz : r = some z) (hzl : z < V.1) {j : Nat} {dcl nm ds : String} {fin : Bool} {ty : FieldType} (hF : ∃ k, FO (V.2.1 z) k 2 j dcl nm ds fin ty) (hw : V.2.2.2 z j = some w) {ref : String} {index : Nat} (hl : Cond.fieldLink own index ref nm ds ∈ UW) (hsame : ∀ x, s.fieldFound? dcl nm ds = some x → s.fieldFound? ref nm ds = some x) (hdg : decode cc pc = .ok (.getfield index, 3)) (kk : W p l e R s m args below meth c H locs cells slots Q (F0 m (pc + 3) ls (vR ad (some w) :: rest))) : W p l e R s m args below meth c H locs cells slots Q (F0 m pc ls (vR ad r :: rest)) := gx_getv C G hz hzl hF hl hsame hdg (by rw [← hw]; rfl) kk
theorem Gx_sI {S : Me} {z j : Nat} {x : Int} (rx : rng x) {H1 : Heap} (hP : va_P D vwCl (wo cy ad V (sI S z j x)) H1) (G : Gx D cy ad V S H) : Gx D cy ad V (sI S z j x) H1 := by
  refine ⟨hP, G.2.1, fun a k => ?_, G.2.2.2.1, G.2.2.2.2.1, G.2.2.2.2.2⟩
  rw [sI_1]
  split
  · exact rx
  · exact G.2.2.1 a k
theorem Gx_sP {S : Me} {z j : Nat} {r : Option Nat} (hr : ∀ w, r = some w → w < V.1) {H1 : Heap} (hP : va_P D vwCl (wo cy ad V (sP S z j r)) H1) (G : Gx D cy ad V S H) : Gx D cy ad V (sP S z j r) H1 := by
  refine ⟨hP, G.2.1, G.2.2.1, fun a k w hw => ?_, G.2.2.2.2.1, G.2.2.2.2.2⟩
  rw [sP_2] at hw
  split at hw
  · exact hr w hw
  · exact G.2.2.2.1 a k w hw
theorem wo_sI {z j : Nat} {x : Int} {e9 : va_E} (hzl : z < V.1) (he : cf cy ad (V.2.1 z) (V.2.2.1 z) (fun j' => if j' = j then x else S.1 z j') (S.2 z) (V.2.2.2 z) = e9) : (wo cy ad V S).set z (ad z, e9) = wo cy ad V (sI S z j x) := by
  refine wo_set hzl (fun b hb => ?_) (fun b _ => rfl) ?_
  · funext k
    rw [sI_1, if_neg (fun h => hb h.1)]
  · rw [← he]
    congr 1
    funext k
    rw [sI_1]
    simp
theorem wo_sP {z j : Nat} {r : Option Nat} {e9 : va_E} (hzl : z < V.1) (he : cf cy ad (V.2.1 z) (V.2.2.1 z) (S.1 z) (fun j' => if j' = j then r else S.2 z j') (V.2.2.2 z) = e9) : (wo cy ad V S).set z (ad z, e9) = wo cy ad V (sP S z j r) := by
  refine wo_set hzl (fun b _ => rfl) (fun b hb => ?_) ?_
  · funext k
    rw [sP_2, if_neg (fun h => hb h.1)]
  · rw [← he]
    congr 1
    funext k
    rw [sP_2]
    simp
theorem gx_putv (C : Cx p s m args meth c cc own D cy A) (G : Gy D cy A s.heap ad V S H locs) {r : Option Nat} {z : Nat} (hz : r = some z) (hzl : z < V.1) {kd j : Nat} {dcl nm ds : String} {ty : FieldType} (hF : ∃ k, FO (V.2.1 z) k kd j dcl nm ds false ty) {v : Value} (hn : narrow ty v = v) (hft : fits ty v = true) {ref : String} {index : Nat} (hl : Cond.fieldLink own index ref nm ds ∈ UW) (hsame : ∀ x, s.fieldFound? dcl nm ds = some x → s.fieldFound? ref nm ds = some x) (hdg : decode cc pc = .ok (.putfield index, 3))
    {S' : Me} (hset : ∀ k, V.2.1 z < 12 → (fl (V.2.1 z))[k]? = some (kd, j) → (wo cy ad V S).set z (ad z, .inr (V.2.1 z, ((fl (V.2.1 z)).map (fv ad (S.1 z) (S.2 z) (V.2.2.2 z))).set k v)) = wo cy ad V S') (hG : ∀ H1, va_P D vwCl (wo cy ad V S') H1 → Gx D cy ad V S' H1)
    (kk : ∀ (H1 : Heap) (locs1 : List Loc), Gy D cy A s.heap ad V S' H1 locs1 → W p l e R s m args below meth c H1 locs1 cells slots Q (F0 m (pc + 3) ls rest)) : W p l e R s m args below meth c H locs cells slots Q (F0 m pc ls (v :: vR ad r :: rest)) := by
  subst hz
  obtain ⟨k, Cn, T, N, ty0, hc, hu, hty, hnm, hk, hT, hpd, ht, hfl⟩ := hF
  refine va_put (Ts := UW) C.1 C.2.1 C.2.2.2.1 hu ty0 hty hnm C.2.2.1 C.2.2.2.2.1.1 G.1.1 G.D G.2.2 z (wo_o hzl ht) hc k hk (by rw [hT]; exact C.2.2.2.1 _ hl) (by rw [hT]; exact hsame) (by rw [hT]) (by rw [hT]; exact hpd) hn hft (by rw [List.length_map]; exact (List.getElem?_eq_some_iff.mp hfl).1) hdg (fun H1 locs1 hP _ hS => ?_)
  rw [hset k ht hfl] at hP
  exact kk H1 locs1 ⟨hG H1 hP, G.2.1, hS⟩
theorem gx_putI (C : Cx p s m args meth c cc own D cy A) (G : Gy D cy A s.heap ad V S H locs) {r : Option Nat} {z : Nat} (hz : r = some z) (hzl : z < V.1) {j : Nat} {dcl nm ds : String} (hF : ∃ k, FO (V.2.1 z) k 0 j dcl nm ds false .int) {x : Int} (rx : rng x) {ref : String} {index : Nat} (hl : Cond.fieldLink own index ref nm ds ∈ UW) (hsame : ∀ x, s.fieldFound? dcl nm ds = some x → s.fieldFound? ref nm ds = some x) (hdg : decode cc pc = .ok (.putfield index, 3))
    (kk : ∀ (H1 : Heap) (locs1 : List Loc), Gy D cy A s.heap ad V (sI S z j x) H1 locs1 → W p l e R s m args below meth c H1 locs1 cells slots Q (F0 m (pc + 3) ls rest)) : W p l e R s m args below meth c H locs cells slots Q (F0 m pc ls (vI x :: vR ad r :: rest)) := by
  refine gx_putv C G hz hzl hF rfl rfl hl hsame hdg (fun k ht hfl => wo_sI hzl ?_) (fun H1 hP => Gx_sI rx hP G.1) kk
  rw [cf_o ht, fl_set (i' := fun j' => if j' = j then x else S.1 z j') (p' := S.2 z) hfl (by simp [fv]) (fun j' h => if_neg h) (fun _ _ => rfl)]
theorem gx_putZ (C : Cx p s m args meth c cc own D cy A) (G : Gy D cy A s.heap ad V S H locs) {r : Option Nat} {z : Nat} (hz : r = some z) (hzl : z < V.1) {j : Nat} {dcl nm ds : String} (hF : ∃ k, FO (V.2.1 z) k 3 j dcl nm ds false .boolean) {x : Int} (hx : x = 0 ∨ x = 1) {ref : String} {index : Nat} (hl : Cond.fieldLink own index ref nm ds ∈ UW) (hsame : ∀ x, s.fieldFound? dcl nm ds = some x → s.fieldFound? ref nm ds = some x) (hdg : decode cc pc = .ok (.putfield index, 3))
    (kk : ∀ (H1 : Heap) (locs1 : List Loc), Gy D cy A s.heap ad V (sI S z j x) H1 locs1 → W p l e R s m args below meth c H1 locs1 cells slots Q (F0 m (pc + 3) ls rest)) : W p l e R s m args below meth c H locs cells slots Q (F0 m pc ls (vI x :: vR ad r :: rest)) := by
  refine gx_putv C G hz hzl hF (by rcases hx with rfl | rfl <;> rfl) (by rcases hx with rfl | rfl <;> rfl) hl hsame hdg (fun k ht hfl => wo_sI hzl ?_) (fun H1 hP => Gx_sI (by rcases hx with rfl | rfl <;> decide) hP G.1) kk
  rw [cf_o ht, fl_set (i' := fun j' => if j' = j then x else S.1 z j') (p' := S.2 z) hfl (by simp [fv]) (fun j' h => if_neg h) (fun _ _ => rfl)]
theorem gx_putP (C : Cx p s m args meth c cc own D cy A) (G : Gy D cy A s.heap ad V S H locs) {r : Option Nat} {z : Nat} (hz : r = some z) (hzl : z < V.1) {j : Nat} {dcl nm ds : String} {ty : FieldType} (hF : ∃ k, FO (V.2.1 z) k 1 j dcl nm ds false ty) (hty : (∃ n, ty = .object n) ∨ ∃ t, ty = .array t) {x : Option Nat} (hx : ∀ w, x = some w → w < V.1) {ref : String} {index : Nat} (hl : Cond.fieldLink own index ref nm ds ∈ UW) (hsame : ∀ x, s.fieldFound? dcl nm ds = some x → s.fieldFound? ref nm ds = some x) (hdg : decode cc pc = .ok (.putfield index, 3))
    (kk : ∀ (H1 : Heap) (locs1 : List Loc), Gy D cy A s.heap ad V (sP S z j x) H1 locs1 → W p l e R s m args below meth c H1 locs1 cells slots Q (F0 m (pc + 3) ls rest)) : W p l e R s m args below meth c H locs cells slots Q (F0 m pc ls (vR ad x :: vR ad r :: rest)) := by
  refine gx_putv C G hz hzl hF (by rcases hty with ⟨n, rfl⟩ | ⟨t, rfl⟩ <;> cases x <;> rfl) (by rcases hty with ⟨n, rfl⟩ | ⟨t, rfl⟩ <;> cases x <;> rfl) hl hsame hdg (fun k ht hfl => wo_sP hzl ?_) (fun H1 hP => Gx_sP hx hP G.1) kk
  rw [cf_o ht, fl_set (i' := S.1 z) (p' := fun j' => if j' = j then x else S.2 z j') hfl (by simp [fv]) (fun _ _ => rfl) (fun j' h => if_neg h)]
theorem wo_i {z : Nat} (hzl : z < V.1) (ht : V.2.1 z = 12) : (wo cy ad V S)[z]? = some (ad z, .inl (cy.1, V.2.2.1 z, .inl (fun j => Int32.ofInt (S.1 z j)))) := by rw [wo_at hzl, cf_i ht]
theorem gx_iald (C : Cx p s m args meth c cc own D cy A) (G : Gy D cy A s.heap ad V S H locs) {r : Option Nat} {z : Nat} (hz : r = some z) (hzl : z < V.1) (ht : V.2.1 z = 12) {i : Int} (ri : rng i) (h0 : 0 ≤ i) (h1 : i < (V.2.2.1 z : Int)) (hdg : decode cc pc = .ok (.iaload, 1)) (kk : W p l e R s m args below meth c H locs cells slots Q (F0 m (pc + 1) ls (vI (S.1 z i.toNat) :: rest))) : W p l e R s m args below meth c H locs cells slots Q (F0 m pc ls (vI i :: vR ad r :: rest)) := by
  subst hz
  exact va_iald C.1 C.2.1 C.2.2.2.2.1.1 G.1.1 z 0 (wo_i hzl ht) rfl (rg_in ri h0 h1) hdg (by rw [rg_cl ri]; exact kk)
theorem gx_iast (C : Cx p s m args meth c cc own D cy A) (G : Gy D cy A s.heap ad V S H locs) {r : Option Nat} {z : Nat} (hz : r = some z) (hzl : z < V.1) (ht : V.2.1 z = 12) {i x : Int} (ri : rng i) (rx : rng x) (h0 : 0 ≤ i) (h1 : i < (V.2.2.1 z : Int)) (hdg : decode cc pc = .ok (.iastore, 1)) (kk : ∀ (H1 : Heap) (locs1 : List Loc), Gy D cy A s.heap ad V (sI S z i.toNat x) H1 locs1 → W p l e R s m args below meth c H1 locs1 cells slots Q (F0 m (pc + 1) ls rest)) : W p l e R s m args below meth c H locs cells slots Q (F0 m pc ls (vI x :: vI i :: vR ad r :: rest)) := by
  subst hz
  refine va_iast C.1 C.2.1 C.2.2.2.2.1.1 G.1.1 G.D G.2.2 z 0 (wo_i hzl ht) rfl (rg_in ri h0 h1) hdg (fun H1 locs1 hP _ hS => ?_)
  rw [rg_cl ri, wo_sI (j := i.toNat) (x := x) hzl (by
    rw [cf_i ht]
    congr 3
    refine congrArg Sum.inl (funext fun j => ?_)
    by_cases hj : j = i.toNat
    · subst hj; simp [upd]
    · simp [upd, hj])] at hP
  exact kk H1 locs1 ⟨Gx_sI rx hP G.1, G.2.1, hS⟩
theorem gx_alen (C : Cx p s m args meth c cc own D cy A) (G : Gy D cy A s.heap ad V S H locs) {r : Option Nat} {z : Nat} (hz : r = some z) (hzl : z < V.1) (ht : V.2.1 z = 12) (hdg : decode cc pc = .ok (.arraylength, 1)) (kk : W p l e R s m args below meth c H locs cells slots Q (F0 m (pc + 1) ls (vI (V.2.2.1 z : Int) :: rest))) : W p l e R s m args below meth c H locs cells slots Q (F0 m pc ls (vR ad r :: rest)) := by
  subst hz
  exact va_alen C.1 C.2.1 C.2.2.2.2.1.1 G.1.1 z 0 (wo_i hzl ht) rfl rfl hdg kk
/-- a reference array's type: of Asks (13) or of Shelves (14) -/
theorem wo_r {z : Nat} (hzl : z < V.1) (ht : V.2.1 z = 13 ∨ V.2.1 z = 14) : ∃ (t0 : Nat) (cA : ClassId) (E : String), (wo cy ad V S)[z]? = some (ad z, .inl (cA, V.2.2.1 z, .inr (.inr (.inr (.inr (fun j => (S.2 z j).map ad)))))) ∧ (tyl cy)[t0]? = some (cA, .object E) := by
  rcases ht with h | h
  · exact ⟨1, cy.2.1, _, by rw [wo_at hzl, cf_a h], rfl⟩
  · exact ⟨2, cy.2.2.1, _, by rw [wo_at hzl, cf_s h], rfl⟩
theorem gx_aald (C : Cx p s m args meth c cc own D cy A) (G : Gy D cy A s.heap ad V S H locs) {r : Option Nat} {z : Nat} (hz : r = some z) (hzl : z < V.1) (ht : V.2.1 z = 13 ∨ V.2.1 z = 14) {i : Int} (ri : rng i) (h0 : 0 ≤ i) (h1 : i < (V.2.2.1 z : Int)) (hdg : decode cc pc = .ok (.aaload, 1)) (kk : W p l e R s m args below meth c H locs cells slots Q (F0 m (pc + 1) ls (vR ad (S.2 z i.toNat) :: rest))) : W p l e R s m args below meth c H locs cells slots Q (F0 m pc ls (vI i :: vR ad r :: rest)) := by
  subst hz
  obtain ⟨t0, cA, E, h2, h3⟩ := wo_r (cy := cy) (ad := ad) (S := S) hzl ht
  exact va_aldq C.1 C.2.1 C.2.2.2.2.1.1 G.1.1 z t0 h2 h3 (rg_in ri h0 h1) hdg (by rw [rg_cl ri]; exact kk)
/-- values that a method takes and gives: ints in range, names of cells -/
def okv (V : Vt) : Int ⊕ Option Nat → Prop
  | .inl x => rng x
  | .inr r => ∀ z, r = some z → z < V.1
def qm (below : List Frame) (D : va_G) (cy : ClassId × ClassId × ClassId × ClassId) (ad : Nat → Nat) (V : Vt) (A : Nat → Prop) (args : Array Value) (s : State) (Qo : Option (Int ⊕ Option Nat) → Me → Prop) : State → Prop := MQ below (fun _ st oc t => (∃ (r : Option (Int ⊕ Option Nat)) (S' : Me), oc = .returned (r.map (vS ad)) ∧ (∀ v, r = some v → okv V v) ∧ Qo r S' ∧ Gx D cy ad V S' t.heap) ∧ va_F A st t) args s 0 0 A
abbrev rmx (fr lc : Nat) : Room := { frames := fr, cells := 0, slots := 0, locals := lc }
/-- THE CONTRACT of a method that makes no cells -/
def KM (l : Launch) (D : va_G) (cy : ClassId × ClassId × ClassId × ClassId) (y : MethodName) (cc : ByteArray) (n : Nat) (rt : Option FieldType) (fr lc : Nat) (ad : Nat → Nat) (V : Vt) (S : Me) (vs : List (Int ⊕ Option Nat)) (Qo : Option (Int ⊕ Option Nat) → Me → Prop) : Prop :=
  ∀ sz : Nat, Met l y (.code y cc n rt :: UW) ({ frames := fr, cells := 0, slots := 0, locals := lc }) (va_Pc (vs.map (vS ad)) (fun U => U.heap.size = sz ∧ Gx D cy ad V S U.heap ∧ Kx D cy U)) (fun _ st oc t => (∃ (r : Option (Int ⊕ Option Nat)) (S' : Me), oc = .returned (r.map (vS ad)) ∧ (∀ v, r = some v → okv V v) ∧ Qo r S' ∧ Gx D cy ad V S' t.heap) ∧ va_F (RA ad V.1 sz) st t) 0 0 (RA ad V.1 sz)
def qI (Q : Int → Me → Prop) : Option (Int ⊕ Option Nat) → Me → Prop := fun r S => ∃ x, r = some (.inl x) ∧ Q x S
def qR (Q : Option Nat → Me → Prop) : Option (Int ⊕ Option Nat) → Me → Prop := fun r S => ∃ x, r = some (.inr x) ∧ Q x S
def qV (Q : Me → Prop) : Option (Int ⊕ Option Nat) → Me → Prop := fun r S => r = none ∧ Q S
theorem kkI {Qi : Int → Me → Prop} (kk : ∀ (x : Int) (S' : Me) (H1 : Heap) (locs1 : List Loc), rng x → Qi x S' → Gy D cy A s.heap ad V S' H1 locs1 → W p l e R s m args below meth c H1 locs1 cells slots Q (F0 m (pc + 3) ls (vI x :: rest))) : ∀ (r : Option (Int ⊕ Option Nat)) (S' : Me) (H1 : Heap) (locs1 : List Loc), (∀ v, r = some v → okv V v) → qI Qi r S' → Gy D cy A s.heap ad V S' H1 locs1 → W p l e R s m args below meth c H1 locs1 cells slots Q (F0 m (pc + 3) ls ((r.map (vS ad)).toList ++ rest)) := by
  intro r S' H1 locs1 ok hq G
  obtain ⟨x, rfl, hq⟩ := hq
  exact kk x S' H1 locs1 (ok _ rfl) hq G
theorem kkR {Qi : Option Nat → Me → Prop} (kk : ∀ (x : Option Nat) (S' : Me) (H1 : Heap) (locs1 : List Loc), (∀ z, x = some z → z < V.1) → Qi x S' → Gy D cy A s.heap ad V S' H1 locs1 → W p l e R s m args below meth c H1 locs1 cells slots Q (F0 m (pc + 3) ls (vR ad x :: rest))) : ∀ (r : Option (Int ⊕ Option Nat)) (S' : Me) (H1 : Heap) (locs1 : List Loc), (∀ v, r = some v → okv V v) → qR Qi r S' → Gy D cy A s.heap ad V S' H1 locs1 → W p l e R s m args below meth c H1 locs1 cells slots Q (F0 m (pc + 3) ls ((r.map (vS ad)).toList ++ rest)) := by
  intro r S' H1 locs1 ok hq G
  obtain ⟨x, rfl, hq⟩ := hq
  exact kk x S' H1 locs1 (ok _ rfl) hq G
theorem kkV {Qi : Me → Prop} (kk : ∀ (S' : Me) (H1 : Heap) (locs1 : List Loc), Qi S' → Gy D cy A s.heap ad V S' H1 locs1 → W p l e R s m args below meth c H1 locs1 cells slots Q (F0 m (pc + 3) ls rest)) : ∀ (r : Option (Int ⊕ Option Nat)) (S' : Me) (H1 : Heap) (locs1 : List Loc), (∀ v, r = some v → okv V v) → qV Qi r S' → Gy D cy A s.heap ad V S' H1 locs1 → W p l e R s m args below meth c H1 locs1 cells slots Q (F0 m (pc + 3) ls ((r.map (vS ad)).toList ++ rest)) := by
  intro r S' H1 locs1 ok hq G
  obtain ⟨rfl, hq⟩ := hq
  exact kk S' H1 locs1 hq G
theorem rg_dv {x y : Int} (hx : rng x) (hy : 0 < y) : rng (x.tdiv y) := by
  rcases Int.le_total 0 x with h | h
  · rw [Int.tdiv_eq_ediv_of_nonneg h]
    have h1 := Int.ediv_le_self y h
    have h2 := Int.ediv_nonneg h (Int.le_of_lt hy)
    omega
  · have e : x.tdiv y = -((-x).tdiv y) := by rw [Int.neg_tdiv]; omega
    have h0 : 0 ≤ -x := by omega
    rw [e, Int.tdiv_eq_ediv_of_nonneg h0]
    have h1 := Int.ediv_le_self y h0
    have h2 := Int.ediv_nonneg h0 (Int.le_of_lt hy)
    omega
theorem rg_md {x y : Int} (hx : rng x) : rng (x.tmod y) := by
  rcases Int.le_total 0 x with h | h
  · have h1 : (x.tmod y).natAbs ≤ x.natAbs := by rw [Int.natAbs_tmod]; exact Nat.mod_le _ _
    omega
  · have h1 : (x.tmod y).natAbs ≤ x.natAbs := by rw [Int.natAbs_tmod]; exact Nat.mod_le _ _
    have h2 : (x.tmod y) ≤ 0 := by
      have := Int.tmod_nonneg (a := -x) y (by omega)
      rw [Int.neg_tmod] at this
      omega
    omega
theorem rg_mx {x y : Int} (hx : rng x) (hy : rng y) : rng (if x < y then y else x) := by split <;> assumption
def lmask (bs : List Bool) (PL : List (Option (Int ⊕ Option Nat))) : List (Option (Int ⊕ Option Nat)) := List.zipWith (fun b x => if b then x else none) bs PL
theorem lo_mask {bs : List Bool} {PL' : List (Option (Int ⊕ Option Nat))} (h : lo ad ls PL) (hl : bs.length = PL.length) (he : lmask bs PL = PL') : lo ad ls PL' := by
  subst he
  refine ⟨by rw [h.1]; simp [lmask, hl], h.2.1, fun i v hv => h.2.2 i v ?_⟩
  unfold lmask at hv
  rw [List.getElem?_zipWith] at hv
  cases hb : bs[i]? with
  | none => rw [hb] at hv; cases hv
  | some b =>
    cases hp : PL[i]? with
    | none => rw [hb, hp] at hv; cases hv
    | some q =>
      rw [hb, hp] at hv
      cases b with
      | false => cases hv
      | true => exact hv
theorem gx_max (C : Cx p s m args meth c cc own D cy A) (hlo : lo ad ls PL) (hml : c.maxLocals = PL.length) {index : Nat} {x y : Int} (rx : rng x) (ry : rng y) (hlink : Cond.methodLink own index Lib.Math.max.name ∈ UW) (hR : 1 ≤ R.frames ∧ 21 ≤ R.locals) (hRc : cells ≤ R.cells ∧ slots ≤ R.slots) (hW : (rest.map fun v => v.category).sum ≤ 8) (hdg : decode cc pc = .ok (.invokestatic index, 3)) (kk : W p l e R s m args below meth c H locs cells slots Q (F0 m (pc + 3) ls (vI (if x < y then y else x) :: rest))) : W p l e R s m args below meth c H locs cells slots Q (F0 m pc ls (vI y :: vI x :: rest)) := by
  have e9 : vI (if x < y then y else x) = .int (if Int32.ofInt x < Int32.ofInt y then Int32.ofInt y else Int32.ofInt x) := by
    by_cases h : x < y
    · rw [if_pos h, if_pos ((rg_lt rx ry).mpr h)]; rfl
    · rw [if_neg h, if_neg (fun q => h ((rg_lt rx ry).mp q))]; rfl
  rw [e9] at kk
  have hts := C.2.2.2.1
  exact va_mmax C.1 C.2.1 (hml.trans hlo.1.symm) C.2.2.1 (hts _ hlink) (hts _ uwMaxS) (hts _ uwMaxI) (hts _ uwMaxC) hR.1 (by omega) hRc.1 hRc.2 hdg kk
/-- behind a call -/
theorem gx_back (C : Cx p s m args meth c cc own D cy A) (G : Gy D cy A s.heap ad V S H locs) {st0 : List Value} {Qo : Option (Int ⊕ Option Nat) → Me → Prop} (hr : va_Run p l e R s m args below meth c H locs cells slots 0 0 (F0 m pc ls st0) rest (fun st oc t => (∃ (r : Option (Int ⊕ Option Nat)) (S' : Me), oc = .returned (r.map (vS ad)) ∧ (∀ v, r = some v → okv V v) ∧ Qo r S' ∧ Gx D cy ad V S' t.heap) ∧ va_F (RA ad V.1 H.size) st t) (RA ad V.1 H.size))
    (kk : ∀ (r : Option (Int ⊕ Option Nat)) (S' : Me) (H1 : Heap) (locs1 : List Loc), (∀ v, r = some v → okv V v) → Qo r S' → Gy D cy A s.heap ad V S' H1 locs1 → W p l e R s m args below meth c H1 locs1 cells slots Q (F0 m (pc + 3) ls ((r.map (vS ad)).toList ++ rest))) : W p l e R s m args below meth c H locs cells slots Q (F0 m pc ls st0) := by
  have hfree : ∀ q, RA ad V.1 H.size q → A q := by
    intro q hq
    rcases hq with ⟨k, hk, rfl⟩ | hq
    · exact G.2.1 k hk
    · exact C.2.2.2.2.2.1 q (Nat.le_trans G.2.2.1 hq)
  intro T hT X
  obtain ⟨v, st₀, t, T', L, h0, X', hL, e1, e2, ⟨⟨r, S', hv, hok, hq, hg⟩, hz, hk⟩, st⟩ := hr T hT X
  cases hv
  rw [h0] at hz hk
  obtain ⟨t2, a1, b1⟩ := kk r S' T'.heap (locs ++ L) hok hq ⟨by rw [e1]; exact hg, G.2.1, Nat.le_trans G.2.2.1 (by rw [e1]; exact hz), fun q h1 h2 => by rw [e1, hk q (Nat.lt_of_lt_of_le h1 G.2.2.1) (fun z => h2 (hfree q z))]; exact G.2.2.2.1 q h1 h2, fun q hq => by
      rcases List.mem_append.mp hq with h | h
      · exact G.2.2.2.2 q h
      · exact hfree _ (hL q h)⟩ T' rfl X'
  exact ⟨t2, st t2 a1, b1⟩
theorem KM.blind {y : MethodName} {cc : ByteArray} {vs : List Value} {sz : Nat} : FrameBlind (va_Pc vs (fun U => U.heap.size = sz ∧ Gx D cy ad V S U.heap ∧ Kx D cy U)) := fun a U g mk q => by
  obtain ⟨q0, q1, qP, qK⟩ := q
  exact ⟨q0, q1, qP, Kx.same (u := U) (U := U.calling g mk a) rfl qK⟩
/-- invokevirtual of a method that its receiver's class declares -/
theorem gx_callV (C : Cx p s m args meth c cc own D cy A) (G : Gy D cy A s.heap ad V S H locs) (hlo : lo ad ls PL) (hml : c.maxLocals = PL.length) {y : MethodName} {bc : ByteArray} {n fr lc na index : Nat} {rt : Option FieldType} {vs : List (Int ⊕ Option Nat)} {Qo : Option (Int ⊕ Option Nat) → Me → Prop} {r : Option Nat} {z : Nat}
    (hK : KM l D cy y bc n rt fr lc ad V S (.inr (some z) :: vs) Qo) (hz : r = some z) (hzl : z < V.1) {q9 : vw_C} (hc : vwCl[V.2.1 z]? = some q9) (ht : V.2.1 z < 12) (hy : y.cls = q9.1)
    (hcode : Cond.code y bc n rt ∈ UW) (hlink : Cond.methodLink own index y ∈ UW) (hinst : Cond.instanceMethod y ∈ UW) (hsel : Cond.selects q9.1 y y ∈ UW) (hini : Cond.initialized q9.1 ∈ UW)
    (hd : y.cls ≠ "java/lang/invoke/MethodHandle" ∧ y.cls ≠ "java/lang/invoke/VarHandle" ∧ (parseMethodDescriptor y.desc).map (fun d => d.parameters.length) = some na) (hR : fr + 1 ≤ R.frames ∧ 8 + (n + 11) + lc ≤ R.locals) (hRc : cells ≤ R.cells ∧ slots ≤ R.slots)
    (hn : vs.length = na) {st0 : List Value} (hst : st0 = (vs.map (vS ad)).reverse ++ vR ad r :: rest) (hW : (rest.map fun v => v.category).sum ≤ 8) (hdg : decode cc pc = .ok (.invokevirtual index, 3))
    (kk : ∀ (r : Option (Int ⊕ Option Nat)) (S' : Me) (H1 : Heap) (locs1 : List Loc), (∀ v, r = some v → okv V v) → Qo r S' → Gy D cy A s.heap ad V S' H1 locs1 → W p l e R s m args below meth c H1 locs1 cells slots Q (F0 m (pc + 3) ls ((r.map (vS ad)).toList ++ rest))) : W p l e R s m args below meth c H locs cells slots Q (F0 m pc ls st0) := by
  subst hz
  have hts := C.2.2.2.1
  refine gx_back C G (va_runV (C := q9.1) (b := ad z) (As := vs.map (vS ad)) (Ts := UW) (own := own) (nL := PL.length) ⟨C.1, C.2.1, hml, C.2.2.1, hts⟩ (hK H.size) ⟨callB_of (ws' := UW) na hts (uw_in hcode) rfl rfl rfl (by rw [hy]; exact hts _ hini) (hts _ hlink) hd hR, hts _ hinst, hts _ hsel⟩ ⟨KM.blind (y := y) (cc := bc), va_recv C.2.2.2.2.1.1 G.1.1 hc (wo_o hzl ht), fun U hU hW => ⟨rfl, by rw [hU], by rw [hU]; exact G.1, Kx.warm hW C.2.2.2.2.1⟩⟩ rfl (by rw [List.length_map]; exact hn) hlo.1 hst (lv_room hW) hdg ⟨hRc.1, hRc.2⟩) kk
/-- invokestatic -/
theorem gx_callS (C : Cx p s m args meth c cc own D cy A) (G : Gy D cy A s.heap ad V S H locs) (hlo : lo ad ls PL) (hml : c.maxLocals = PL.length) {y : MethodName} {bc : ByteArray} {n fr lc na index : Nat} {rt : Option FieldType} {vs : List (Int ⊕ Option Nat)} {Qo : Option (Int ⊕ Option Nat) → Me → Prop}
    (hK : KM l D cy y bc n rt fr lc ad V S vs Qo)
    (hcode : Cond.code y bc n rt ∈ UW) (hlink : Cond.methodLink own index y ∈ UW) (hstat : Cond.static y ∈ UW) (hini : Cond.initialized y.cls ∈ UW)
    (hd : y.cls ≠ "java/lang/invoke/MethodHandle" ∧ y.cls ≠ "java/lang/invoke/VarHandle" ∧ (parseMethodDescriptor y.desc).map (fun d => d.parameters.length) = some na) (hR : fr + 1 ≤ R.frames ∧ 8 + (n + 11) + lc ≤ R.locals) (hRc : cells ≤ R.cells ∧ slots ≤ R.slots)
    (hn : vs.length = na) {st0 : List Value} (hst : st0 = (vs.map (vS ad)).reverse ++ rest) (hW : (rest.map fun v => v.category).sum ≤ 8) (hdg : decode cc pc = .ok (.invokestatic index, 3))
    (kk : ∀ (r : Option (Int ⊕ Option Nat)) (S' : Me) (H1 : Heap) (locs1 : List Loc), (∀ v, r = some v → okv V v) → Qo r S' → Gy D cy A s.heap ad V S' H1 locs1 → W p l e R s m args below meth c H1 locs1 cells slots Q (F0 m (pc + 3) ls ((r.map (vS ad)).toList ++ rest))) : W p l e R s m args below meth c H locs cells slots Q (F0 m pc ls st0) := by
  have hts := C.2.2.2.1
  refine gx_back C G (va_runS (As := vs.map (vS ad)) (Ts := UW) (own := own) (nL := PL.length) ⟨C.1, C.2.1, hml, C.2.2.1, hts⟩ (hK H.size) ⟨callB_of (ws' := UW) na hts (uw_in hcode) rfl rfl rfl (hts _ hini) (hts _ hlink) hd hR, hts _ hstat⟩ ⟨KM.blind (y := y) (cc := bc), fun U hU hW => ⟨rfl, by rw [hU], by rw [hU]; exact G.1, Kx.warm hW C.2.2.2.2.1⟩⟩ rfl (by rw [List.length_map]; exact hn) hlo.1 hst (lv_room hW) hdg ⟨hRc.1, hRc.2⟩) kk
/-- a method's entry -/
theorem KM.of {y : MethodName} {cc : ByteArray} {n fr lc : Nat} {rt : Option FieldType} {vs : List (Int ⊕ Option Nat)} {Qo : Option (Int ⊕ Option Nat) → Me → Prop} {own : String} (hy : plainName y.cls = true) (ho : y.cls = own) (hvl : vs.length ≤ n)
    (body : ∀ (p : Program) (e : Env) (s : State) (m : MethodId) (args : Array Value) (below : List Frame) (meth : Method) (c : Code) (A : Nat → Prop) (ls : Array Slot) (H : Heap) (locs : List Loc), A = RA ad V.1 s.heap.size → Cx p s m args meth c cc own D cy A → meth.sig.returnType = rt → c.maxLocals = n → meth.name = y.name → lo ad ls (vs.map some ++ List.replicate (n - vs.length) none) → Gy D cy A s.heap ad V S H locs →
      W p l e (rmx fr lc) s m args below meth c H locs 0 0 (qm below D cy ad V A args s Qo) (F0 m 0 ls [])) : KM l D cy y cc n rt fr lc ad V S vs Qo := by
  intro sz
  refine Met.ofW (cc := cc) (maxL := n) (ret := rt) hy rfl ?_
  intro p e s m args below meth c s₁ B hml hv
  obtain ⟨rfl, hsz, hG, hK⟩ := hv
  subst hsz
  have hts := atoms_spec (ws := (.code y cc n rt :: UW)) B.pre
  have hown : s.vm.findClass own = some m.cls := by rw [← ho]; exact findClass_of_methodNamed B.named
  have hl := lo_entry ad vs n hvl
  rw [lg_entry_eq]
  generalize (lg_sl (vs.map (vS ad)) ++ List.replicate (n - (lg_sl (vs.map (vS ad))).length) Slot.unset).toArray = ls at hl ⊢
  exact body p e s m _ below meth c _ ls s.heap [] rfl ⟨B.exec, B.bytes, hown, fun w hw => hts w (List.mem_cons_of_mem _ hw), hK, fun q h => Or.inr h, B.notSynchronized⟩ B.returns hml (name_of_methodNamed B.named B.method).1 hl ⟨hG, fun k hk => Or.inl ⟨k, hk, rfl⟩, va_S.rf⟩
theorem gx_iret (C : Cx p s m args meth c cc own D cy A) (G : Gy D cy A s.heap ad V S H locs) {x : Int} {Qi : Int → Me → Prop} (hr : meth.sig.returnType = some .int) (rx : rng x) (h : Qi x S) (hdg : decode cc pc = .ok (.ireturn, 1)) : W p l e R s m args below meth c H locs 0 0 (qm below D cy ad V A args s (qI Qi)) (F0 m pc ls [vI x]) :=
  W.iret C.1 C.2.1 hr (fun t ht _ => ⟨⟨some (.inl x), S, rfl, fun v hv => by cases hv; exact rx, ⟨x, rfl, h⟩, by rw [ht]; exact G.1⟩, G.2.2.F ht⟩) G.2.2.2.2 hdg C.2.2.2.2.2.2
theorem gx_zret (C : Cx p s m args meth c cc own D cy A) (G : Gy D cy A s.heap ad V S H locs) {x : Int} {Qi : Int → Me → Prop} (hr : meth.sig.returnType = some .boolean) (hx : x = 0 ∨ x = 1) (h : Qi x S) (hdg : decode cc pc = .ok (.ireturn, 1)) : W p l e R s m args below meth c H locs 0 0 (qm below D cy ad V A args s (qI Qi)) (F0 m pc ls [vI x]) :=
  W.zret C.1 C.2.1 hr (by rcases hx with rfl | rfl <;> rfl) (fun t ht _ => ⟨⟨some (.inl x), S, rfl, fun v hv => by cases hv; show rng x; omega, ⟨x, rfl, h⟩, by rw [ht]; exact G.1⟩, G.2.2.F ht⟩) G.2.2.2.2 hdg C.2.2.2.2.2.2
theorem gx_vret (C : Cx p s m args meth c cc own D cy A) (G : Gy D cy A s.heap ad V S H locs) {Qi : Me → Prop} (hr : meth.sig.returnType = none) (h : Qi S) (hdg : decode cc pc = .ok (.return_, 1)) : W p l e R s m args below meth c H locs 0 0 (qm below D cy ad V A args s (qV Qi)) (F0 m pc ls []) :=
  W.vret C.1 C.2.1 hr (fun t ht _ => ⟨⟨none, S, rfl, (fun v hv => by cases hv), ⟨rfl, h⟩, by rw [ht]; exact G.1⟩, G.2.2.F ht⟩) G.2.2.2.2 hdg C.2.2.2.2.2.2
theorem gx_aret (C : Cx p s m args meth c cc own D cy A) (G : Gy D cy A s.heap ad V S H locs) {x : Option Nat} {Qi : Option Nat → Me → Prop} {rt : FieldType} (hr : meth.sig.returnType = some rt) (hrt : (∃ n, rt = .object n) ∨ ∃ t, rt = .array t) (hx : ∀ z, x = some z → z < V.1) (h : Qi x S) (hdg : decode cc pc = .ok (.areturn, 1)) : W p l e R s m args below meth c H locs 0 0 (qm below D cy ad V A args s (qR Qi)) (F0 m pc ls [vR ad x]) :=
  W.aret C.1 C.2.1 hr hrt (by cases x; exact Or.inl rfl; exact Or.inr ⟨_, rfl⟩) (fun t ht _ => ⟨⟨some (.inr x), S, rfl, fun v hv => by cases hv; exact hx, ⟨x, rfl, h⟩, by rw [ht]; exact G.1⟩, G.2.2.F ht⟩) G.2.2.2.2 hdg C.2.2.2.2.2.2
end GM
