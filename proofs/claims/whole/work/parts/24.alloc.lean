theorem uwArrI : Cond.arrayClass (Op.newarray.typeOf .int) ∈ UW := uwT 82 (by decide +kernel) (by decide +kernel)
theorem uwObjI : Cond.instanceMethod Lib.objectInit ∈ UW := uwT 29 (by decide +kernel) (by decide +kernel)
theorem uwObjC : Cond.code Lib.objectInit ⟨#[0xb1]⟩ 1 none ∈ UW := uwT 30 (by decide +kernel) (by decide +kernel)
/-! ===== new cells ===== -/
def nV (V : Vt) (t L : Nat) : Vt := (V.1 + 1, fun a => if a = V.1 then t else V.2.1 a, fun a => if a = V.1 then L else V.2.2.1 a, fun a j => if a = V.1 then none else V.2.2.2 a j)
def nS (V : Vt) (S : Me) : Me := (fun a k => if a = V.1 then 0 else S.1 a k, fun a k => if a = V.1 then none else S.2 a k)
def nA (V : Vt) (ad : Nat → Nat) (q : Nat) : Nat → Nat := fun k => if k = V.1 then q else ad k
def exV (V V' : Vt) : Prop := V.1 ≤ V'.1 ∧ ∀ a, a < V.1 → V'.2.1 a = V.2.1 a ∧ V'.2.2.1 a = V.2.2.1 a ∧ V'.2.2.2 a = V.2.2.2 a
theorem exV.rf (V : Vt) : exV V V := ⟨Nat.le_refl _, fun _ _ => ⟨rfl, rfl, rfl⟩⟩
theorem exV.tr {V V' V'' : Vt} (h : exV V V') (h' : exV V' V'') : exV V V'' := ⟨Nat.le_trans h.1 h'.1, fun a ha => by
  obtain ⟨a1, a2, a3⟩ := h.2 a ha
  obtain ⟨b1, b2, b3⟩ := h'.2 a (Nat.lt_of_lt_of_le ha h.1)
  exact ⟨b1.trans a1, b2.trans a2, b3.trans a3⟩⟩
theorem exV.nw (V : Vt) (t L : Nat) : exV V (nV V t L) := ⟨Nat.le_succ _, fun a ha => by
  have h : a ≠ V.1 := Nat.ne_of_lt ha
  refine ⟨?_, ?_, ?_⟩ <;> simp [nV, h]⟩
theorem exV.lt {V V' : Vt} (h : exV V V') {z : Nat} (hz : z < V.1) : z < V'.1 := Nat.lt_of_lt_of_le hz h.1
theorem exV.vl {V V' : Vt} (h : exV V V') {r : Option Nat} (hr : ∀ z, r = some z → z < V.1) : ∀ z, r = some z → z < V'.1 := fun z hz => h.lt (hr z hz)
theorem exV.ty {V V' : Vt} (h : exV V V') {z c : Nat} (hz : z < V.1) (ht : V.2.1 z = c) : V'.2.1 z = c := (h.2 z hz).1.trans ht
theorem exV.ak {V V' : Vt} (h : exV V V') {z : Nat} (hz : z < V.1) (ht : isA (V.2.1 z)) : isA (V'.2.1 z) := by rw [(h.2 z hz).1]; exact ht
theorem fX5_x {V V' : Vt} {o : Nat} (e : exV V V') (h : fX5 V o) : fX5 V' o := by
  unfold fX5 at h ⊢
  obtain ⟨⟨h1, h2⟩, ⟨a0, b0, c0, d0⟩, ⟨a1, b1, c1, d1⟩, ⟨a2, b2, c2, d2⟩, ⟨a3, b3, c3, d3⟩, ⟨a4, b4, c4, d4⟩, ⟨a5, b5, c5, d5⟩, ⟨a6, b6, c6, d6⟩⟩ := h
  refine ⟨⟨e.lt h1, e.ty h1 h2⟩, ⟨by rw [(e.2 o h1).2.2]; exact a0, e.lt b0, e.ty b0 c0, (e.2 _ b0).2.1.trans d0⟩, ⟨by rw [(e.2 o h1).2.2]; exact a1, e.lt b1, e.ty b1 c1, (e.2 _ b1).2.1.trans d1⟩, ⟨by rw [(e.2 o h1).2.2]; exact a2, e.lt b2, e.ty b2 c2, (e.2 _ b2).2.1.trans d2⟩, ⟨by rw [(e.2 o h1).2.2]; exact a3, e.lt b3, e.ty b3 c3, (e.2 _ b3).2.1.trans d3⟩, ⟨by rw [(e.2 o h1).2.2]; exact a4, e.lt b4, e.ty b4 c4, (e.2 _ b4).2.1.trans d4⟩, ⟨by rw [(e.2 o h1).2.2]; exact a5, e.lt b5, e.ty b5 c5, (e.2 _ b5).2.1.trans d5⟩, ⟨by rw [(e.2 o h1).2.2]; exact a6, e.lt b6, e.ty b6 c6, (e.2 _ b6).2.1.trans d6⟩⟩
theorem fX4_x {V V' : Vt} {o : Nat} (e : exV V V') (h : fX4 V o) : fX4 V' o := by
  unfold fX4 at h ⊢
  obtain ⟨⟨h1, h2⟩, ⟨a0, b0, c0, d0⟩, ⟨a1, b1, c1, d1⟩⟩ := h
  refine ⟨⟨e.lt h1, e.ty h1 h2⟩, ⟨by rw [(e.2 o h1).2.2]; exact a0, e.lt b0, e.ty b0 c0, (e.2 _ b0).2.1.trans d0⟩, ⟨by rw [(e.2 o h1).2.2]; exact a1, e.lt b1, e.ty b1 c1, (e.2 _ b1).2.1.trans d1⟩⟩
theorem fX7_x {V V' : Vt} {o : Nat} (e : exV V V') (h : fX7 V o) : fX7 V' o := by
  unfold fX7 at h ⊢
  obtain ⟨⟨h1, h2⟩, ⟨a0, b0, c0, d0⟩, ⟨a1, b1, c1, d1⟩, ⟨a2, b2, c2, d2⟩, ⟨a3, b3, c3, d3⟩⟩ := h
  refine ⟨⟨e.lt h1, e.ty h1 h2⟩, ⟨by rw [(e.2 o h1).2.2]; exact a0, e.lt b0, e.ty b0 c0, (e.2 _ b0).2.1.trans d0⟩, ⟨by rw [(e.2 o h1).2.2]; exact a1, e.lt b1, e.ty b1 c1, (e.2 _ b1).2.1.trans d1⟩, ⟨by rw [(e.2 o h1).2.2]; exact a2, e.lt b2, e.ty b2 c2, (e.2 _ b2).2.1.trans d2⟩, ⟨by rw [(e.2 o h1).2.2]; exact a3, e.lt b3, e.ty b3 c3, (e.2 _ b3).2.1.trans d3⟩⟩
theorem fX1_x {V V' : Vt} {o : Nat} (e : exV V V') (h : fX1 V o) : fX1 V' o := by
  unfold fX1 at h ⊢
  obtain ⟨⟨h1, h2⟩, ⟨a0, b0, c0, d0⟩, ⟨a1, b1, c1, d1⟩, ⟨a2, b2, c2, d2⟩, ⟨a3, b3, c3, d3⟩, ⟨a4, b4, c4, d4⟩, ⟨a5, b5, c5, d5⟩, ⟨a6, b6⟩⟩ := h
  refine ⟨⟨e.lt h1, e.ty h1 h2⟩, ⟨by rw [(e.2 o h1).2.2]; exact a0, e.lt b0, e.ty b0 c0, (e.2 _ b0).2.1.trans d0⟩, ⟨by rw [(e.2 o h1).2.2]; exact a1, e.lt b1, e.ty b1 c1, (e.2 _ b1).2.1.trans d1⟩, ⟨by rw [(e.2 o h1).2.2]; exact a2, e.lt b2, e.ty b2 c2, (e.2 _ b2).2.1.trans d2⟩, ⟨by rw [(e.2 o h1).2.2]; exact a3, e.lt b3, e.ty b3 c3, (e.2 _ b3).2.1.trans d3⟩, ⟨by rw [(e.2 o h1).2.2]; exact a4, e.lt b4, e.ty b4 c4, (e.2 _ b4).2.1.trans d4⟩, ⟨by rw [(e.2 o h1).2.2]; exact a5, e.lt b5, e.ty b5 c5, (e.2 _ b5).2.1.trans d5⟩, ⟨by rw [(e.2 o h1).2.2]; exact a6, fX5_x e b6⟩⟩
theorem fX11_x {V V' : Vt} {o : Nat} (e : exV V V') (h : fX11 V o) : fX11 V' o := by
  unfold fX11 at h ⊢
  obtain ⟨⟨h1, h2⟩, ⟨a0, b0, c0, d0⟩, ⟨a1, b1⟩, ⟨a2, b2⟩, ⟨a3, b3⟩, ⟨a4, b4⟩, ⟨a5, b5, c5, d5⟩⟩ := h
  refine ⟨⟨e.lt h1, e.ty h1 h2⟩, ⟨by rw [(e.2 o h1).2.2]; exact a0, e.lt b0, e.ty b0 c0, (e.2 _ b0).2.1.trans d0⟩, ⟨by rw [(e.2 o h1).2.2]; exact a1, fX5_x e b1⟩, ⟨by rw [(e.2 o h1).2.2]; exact a2, fX1_x e b2⟩, ⟨by rw [(e.2 o h1).2.2]; exact a3, fX4_x e b3⟩, ⟨by rw [(e.2 o h1).2.2]; exact a4, fX7_x e b4⟩, ⟨by rw [(e.2 o h1).2.2]; exact a5, e.lt b5, e.ty b5 c5, (e.2 _ b5).2.1.trans d5⟩⟩
theorem fX12_x {V V' : Vt} {o : Nat} (e : exV V V') (h : fX12 V o) : fX12 V' o := by
  unfold fX12 at h ⊢
  obtain ⟨⟨h1, h2⟩, ⟨a0, b0, c0, d0⟩, ⟨a1, b1, c1, d1⟩, ⟨a2, b2, c2, d2⟩, ⟨a3, b3, c3, d3⟩, ⟨a4, b4, c4, d4⟩, ⟨a5, b5, c5, d5⟩, ⟨a6, b6, c6, d6⟩, ⟨a7, b7, c7, d7⟩, ⟨a8, b8, c8, d8⟩, ⟨a9, b9, c9, d9⟩, ⟨a10, b10, c10, d10⟩, ⟨a11, b11, c11, d11⟩, ⟨a12, b12, c12, d12⟩, ⟨a13, b13, c13, d13⟩, ⟨a14, b14, c14, d14⟩, ⟨a15, b15, c15, d15⟩, ⟨a16, b16, c16, d16⟩, ⟨a17, b17, c17, d17⟩, ⟨a18, b18, c18, d18⟩, ⟨a19, b19, c19, d19⟩, ⟨a20, b20, c20, d20⟩, ⟨a21, b21, c21, d21⟩, ⟨a22, b22, c22, d22⟩, ⟨a23, b23, c23, d23⟩, ⟨a24, b24, c24, d24⟩, ⟨a25, b25, c25, d25⟩, ⟨a26, b26, c26, d26⟩, ⟨a27, b27, c27, d27⟩, ⟨a28, b28, c28, d28⟩⟩ := h
  refine ⟨⟨e.lt h1, e.ty h1 h2⟩, ⟨by rw [(e.2 o h1).2.2]; exact a0, e.lt b0, e.ty b0 c0, (e.2 _ b0).2.1.trans d0⟩, ⟨by rw [(e.2 o h1).2.2]; exact a1, e.lt b1, e.ty b1 c1, (e.2 _ b1).2.1.trans d1⟩, ⟨by rw [(e.2 o h1).2.2]; exact a2, e.lt b2, e.ty b2 c2, (e.2 _ b2).2.1.trans d2⟩, ⟨by rw [(e.2 o h1).2.2]; exact a3, e.lt b3, e.ty b3 c3, (e.2 _ b3).2.1.trans d3⟩, ⟨by rw [(e.2 o h1).2.2]; exact a4, e.lt b4, e.ty b4 c4, (e.2 _ b4).2.1.trans d4⟩, ⟨by rw [(e.2 o h1).2.2]; exact a5, e.lt b5, e.ty b5 c5, (e.2 _ b5).2.1.trans d5⟩, ⟨by rw [(e.2 o h1).2.2]; exact a6, e.lt b6, e.ty b6 c6, (e.2 _ b6).2.1.trans d6⟩, ⟨by rw [(e.2 o h1).2.2]; exact a7, e.lt b7, e.ty b7 c7, (e.2 _ b7).2.1.trans d7⟩, ⟨by rw [(e.2 o h1).2.2]; exact a8, e.lt b8, e.ty b8 c8, (e.2 _ b8).2.1.trans d8⟩, ⟨by rw [(e.2 o h1).2.2]; exact a9, e.lt b9, e.ty b9 c9, (e.2 _ b9).2.1.trans d9⟩, ⟨by rw [(e.2 o h1).2.2]; exact a10, e.lt b10, e.ty b10 c10, (e.2 _ b10).2.1.trans d10⟩, ⟨by rw [(e.2 o h1).2.2]; exact a11, e.lt b11, e.ty b11 c11, (e.2 _ b11).2.1.trans d11⟩, ⟨by rw [(e.2 o h1).2.2]; exact a12, e.lt b12, e.ty b12 c12, (e.2 _ b12).2.1.trans d12⟩, ⟨by rw [(e.2 o h1).2.2]; exact a13, e.lt b13, e.ty b13 c13, (e.2 _ b13).2.1.trans d13⟩, ⟨by rw [(e.2 o h1).2.2]; exact a14, e.lt b14, e.ty b14 c14, (e.2 _ b14).2.1.trans d14⟩, ⟨by rw [(e.2 o h1).2.2]; exact a15, e.lt b15, e.ty b15 c15, (e.2 _ b15).2.1.trans d15⟩, ⟨by rw [(e.2 o h1).2.2]; exact a16, e.lt b16, e.ty b16 c16, (e.2 _ b16).2.1.trans d16⟩, ⟨by rw [(e.2 o h1).2.2]; exact a17, e.lt b17, e.ty b17 c17, (e.2 _ b17).2.1.trans d17⟩, ⟨by rw [(e.2 o h1).2.2]; exact a18, e.lt b18, e.ty b18 c18, (e.2 _ b18).2.1.trans d18⟩, ⟨by rw [(e.2 o h1).2.2]; exact a19, e.lt b19, e.ty b19 c19, (e.2 _ b19).2.1.trans d19⟩, ⟨by rw [(e.2 o h1).2.2]; exact a20, e.lt b20, e.ty b20 c20, (e.2 _ b20).2.1.trans d20⟩, ⟨by rw [(e.2 o h1).2.2]; exact a21, e.lt b21, e.ty b21 c21, (e.2 _ b21).2.1.trans d21⟩, ⟨by rw [(e.2 o h1).2.2]; exact a22, e.lt b22, e.ty b22 c22, (e.2 _ b22).2.1.trans d22⟩, ⟨by rw [(e.2 o h1).2.2]; exact a23, e.lt b23, e.ty b23 c23, (e.2 _ b23).2.1.trans d23⟩, ⟨by rw [(e.2 o h1).2.2]; exact a24, e.lt b24, e.ty b24 c24, (e.2 _ b24).2.1.trans d24⟩, ⟨by rw [(e.2 o h1).2.2]; exact a25, e.lt b25, e.ty b25 c25, (e.2 _ b25).2.1.trans d25⟩, ⟨by rw [(e.2 o h1).2.2]; exact a26, e.lt b26, e.ty b26 c26, (e.2 _ b26).2.1.trans d26⟩, ⟨by rw [(e.2 o h1).2.2]; exact a27, e.lt b27, e.ty b27 c27, (e.2 _ b27).2.1.trans d27⟩, ⟨by rw [(e.2 o h1).2.2]; exact a28, e.lt b28, e.ty b28 c28, (e.2 _ b28).2.1.trans d28⟩⟩
theorem vS_mv {V : Vt} {ad ad' : Nat → Nat} (hag : ∀ k, k < V.1 → ad' k = ad k) {v : Int ⊕ Option Nat} (hv : okv V v) : vS ad' v = vS ad v := by
  rcases v with x | r
  · rfl
  · cases r with
    | none => rfl
    | some z => exact congrArg Value.ref (hag z (hv z rfl))
theorem vs_mv {V : Vt} {ad ad' : Nat → Nat} (hag : ∀ k, k < V.1 → ad' k = ad k) {rs : List (Int ⊕ Option Nat)} (hv : ∀ v ∈ rs, okv V v) : rs.map (vS ad') = rs.map (vS ad) := List.map_congr_left (fun v h => vS_mv hag (hv v h))
theorem lo_mv {V : Vt} {ad ad' : Nat → Nat} {ls : Array Slot} {PL : List (Option (Int ⊕ Option Nat))} (hag : ∀ k, k < V.1 → ad' k = ad k) (hv : ∀ v, some v ∈ PL → okv V v) (h : lo ad ls PL) : lo ad' ls PL :=
  ⟨h.1, h.2.1, fun i v hi => by rw [vS_mv hag (hv v (List.mem_of_getElem? hi))]; exact h.2.2 i v hi⟩
theorem okP_0 {V : Vt} : ∀ v, some v ∈ ([] : List (Option (Int ⊕ Option Nat))) → okv V v := fun v h => by cases h
theorem okP_N {V : Vt} {PL : List (Option (Int ⊕ Option Nat))} (h : ∀ v, some v ∈ PL → okv V v) : ∀ v, some v ∈ none :: PL → okv V v := fun v hv => by
  rcases List.mem_cons.mp hv with e | e
  · cases e
  · exact h v e
theorem okP_S {V : Vt} {PL : List (Option (Int ⊕ Option Nat))} {w : Int ⊕ Option Nat} (hw : okv V w) (h : ∀ v, some v ∈ PL → okv V v) : ∀ v, some v ∈ some w :: PL → okv V v := fun v hv => by
  rcases List.mem_cons.mp hv with e | e
  · cases e; exact hw
  · exact h v e
theorem okS_0 {V : Vt} : ∀ v ∈ ([] : List (Int ⊕ Option Nat)), okv V v := fun v h => by cases h
theorem okS_S {V : Vt} {PL : List (Int ⊕ Option Nat)} {w : Int ⊕ Option Nat} (hw : okv V w) (h : ∀ v ∈ PL, okv V v) : ∀ v ∈ w :: PL, okv V v := fun v hv => by
  rcases List.mem_cons.mp hv with e | e
  · rw [e]; exact hw
  · exact h v e
theorem okv_I {V : Vt} {x : Int} (h : rng x) : okv V (.inl x) := h
theorem okv_R {V : Vt} {r : Option Nat} (h : ∀ z, r = some z → z < V.1) : okv V (.inr r) := h
theorem fv_mv {V : Vt} {ad ad' : Nat → Nat} (hag : ∀ k, k < V.1 → ad' k = ad k) {i : Nat → Int} {p f : Nat → Option Nat} (hp : ∀ j z, p j = some z → z < V.1) (hf : ∀ j z, f j = some z → z < V.1) (q : Nat × Nat) : fv ad' i p f q = fv ad i p f q := by
  unfold fv
  split
  · rfl
  · exact vS_mv hag (v := .inr (p q.2)) (hp q.2)
  · exact vS_mv hag (v := .inr (f q.2)) (hf q.2)
  · rfl
theorem om_mv {V : Vt} {ad ad' : Nat → Nat} (hag : ∀ k, k < V.1 → ad' k = ad k) {p : Nat → Option Nat} (hp : ∀ j z, p j = some z → z < V.1) : (fun j => (p j).map ad') = fun j => (p j).map ad := by
  funext j
  cases h : p j with
  | none => rfl
  | some z => exact congrArg some (hag z (hp j z h))
theorem cf_mv {V : Vt} {cy : ClassId × ClassId × ClassId × ClassId} {ad ad' : Nat → Nat} (hag : ∀ k, k < V.1 → ad' k = ad k) {t L : Nat} {i : Nat → Int} {p f : Nat → Option Nat} (hp : ∀ j z, p j = some z → z < V.1) (hf : ∀ j z, f j = some z → z < V.1) : cf cy ad' t L i p f = cf cy ad t L i p f := by
  unfold cf
  rw [om_mv hag hp, List.map_congr_left (fun q _ => fv_mv hag hp hf q)]
theorem nA_ag {V : Vt} {ad : Nat → Nat} {q : Nat} : ∀ k, k < V.1 → nA V ad q k = ad k := fun k hk => if_neg (Nat.ne_of_lt hk)
theorem wo_nw {V : Vt} {S : Me} {cy : ClassId × ClassId × ClassId × ClassId} {ad : Nat → Nat} {q t L : Nat} (hp : ∀ a j z, S.2 a j = some z → z < V.1) (hf : ∀ a j z, V.2.2.2 a j = some z → z < V.1) : wo cy (nA V ad q) (nV V t L) (nS V S) = wo cy ad V S ++ [(q, cf cy ad t L (fun _ => 0) (fun _ => none) (fun _ => none))] := by
  unfold wo
  show (List.range (V.1 + 1)).map _ = _
  rw [List.range_succ, List.map_append]
  congr 1
  · refine List.map_congr_left (fun a ha => ?_)
    have h : a ≠ V.1 := Nat.ne_of_lt (List.mem_range.mp ha)
    have e1 : (nS V S).1 a = S.1 a := by funext k; simp [nS, h]
    have e2 : (nS V S).2 a = S.2 a := by funext k; simp [nS, h]
    obtain ⟨g1, g2, g3⟩ := (exV.nw V t L).2 a (List.mem_range.mp ha)
    rw [nA_ag a (List.mem_range.mp ha), e1, e2, g1, g2, g3, cf_mv nA_ag (hp a) (hf a)]
  · have e1 : (nS V S).1 V.1 = fun _ => 0 := by funext k; simp [nS]
    have e2 : (nS V S).2 V.1 = fun _ => none := by funext k; simp [nS]
    have e3 : (nV V t L).2.2.2 V.1 = fun _ => none := by funext k; simp [nV]
    have e4 : (nV V t L).2.1 V.1 = t := by simp [nV]
    have e5 : (nV V t L).2.2.1 V.1 = L := by simp [nV]
    show [(nA V ad q V.1, _)] = _
    rw [e1, e2, e3, e4, e5, cf_mv nA_ag (fun j z h => by cases h) (fun j z h => by cases h)]
    simp [nA]
section GA
variable {p : Program} {l : Launch} {e : Env} {R : Room} {s : State} {m : MethodId} {args : Array Value} {below : List Frame} {meth : Method} {c : Code} {H : Heap} {locs : List Loc} {cells slots : Nat} {Q : State → Prop} {cc : ByteArray} {pc : Nat} {ls : Array Slot} {rest : List Value} {D : va_G} {cy : ClassId × ClassId × ClassId × ClassId} {A : Nat → Prop} {ad : Nat → Nat} {V : Vt} {S : Me} {own : String} {PL : List (Option (Int ⊕ Option Nat))}
theorem Gy_nw {H1 : Heap} {q t L : Nat} (G : Gy D cy A s.heap ad V S H locs) (hL : L ≤ 2147483647) (hP : va_P D vwCl (wo cy ad V S ++ [(q, cf cy ad t L (fun _ => 0) (fun _ => none) (fun _ => none))]) H1) (hD : va_D A (wo cy ad V S ++ [(q, cf cy ad t L (fun _ => 0) (fun _ => none) (fun _ => none))])) (hS : va_S A s.heap H1 locs) : Gy D cy A s.heap (nA V ad q) (nV V t L) (nS V S) H1 locs := by
  have hlen : (wo cy ad V S).length = V.1 := by simp [wo]
  have hnew : (wo cy ad V S ++ [(q, cf cy ad t L (fun _ => 0) (fun _ => none) (fun _ => none))])[V.1]? = some (q, cf cy ad t L (fun _ => 0) (fun _ => none) (fun _ => none)) := by
    rw [List.getElem?_append_right (by rw [hlen]; exact Nat.le_refl _), hlen]; simp
  have hold : ∀ k, k < V.1 → (wo cy ad V S ++ [(q, cf cy ad t L (fun _ => 0) (fun _ => none) (fun _ => none))])[k]? = some (ad k, cf cy ad (V.2.1 k) (V.2.2.1 k) (S.1 k) (S.2 k) (V.2.2.2 k)) := by
    intro k hk
    rw [List.getElem?_append_left (by rw [hlen]; exact hk)]
    exact wo_at hk
  have hne : ∀ k, k < V.1 → ad k ≠ q := fun k hk e9 => absurd (hD.1 k V.1 _ _ (hold k hk) hnew e9) (Nat.ne_of_lt hk)
  refine ⟨⟨by rw [wo_nw G.1.2.2.2.1 G.1.2.2.2.2.1]; exact hP, fun i j hi hj e9 => ?_, fun a k => ?_, fun a k z hz => ?_, fun a k z hz => ?_, fun a => ?_⟩, fun k hk => ?_, hS⟩
  · have hi : i < V.1 + 1 := hi
    have hj : j < V.1 + 1 := hj
    unfold nA at e9
    by_cases h1 : i = V.1 <;> by_cases h2 : j = V.1
    · omega
    · rw [if_pos h1, if_neg h2] at e9; exact absurd e9.symm (hne j (by omega))
    · rw [if_neg h1, if_pos h2] at e9; exact absurd e9 (hne i (by omega))
    · rw [if_neg h1, if_neg h2] at e9; exact G.1.2.1 i j (by omega) (by omega) e9
  · show rng (if a = V.1 then 0 else S.1 a k)
    split
    · decide
    · exact G.r a k
  · have hz : (if a = V.1 then none else S.2 a k) = some z := hz
    split at hz
    · cases hz
    · exact Nat.lt_succ_of_lt (G.v a k z hz)
  · have hz : (if a = V.1 then none else V.2.2.2 a k) = some z := hz
    split at hz
    · cases hz
    · exact Nat.lt_succ_of_lt (G.f a k z hz)
  · show (if a = V.1 then L else V.2.2.1 a) ≤ 2147483647
    split
    · exact hL
    · exact G.1.2.2.2.2.2 a
  · have hk : k < V.1 + 1 := hk
    by_cases h : k = V.1
    · rw [h, show nA V ad q V.1 = q by simp [nA]]; exact hD.2 V.1 _ hnew
    · rw [nA_ag k (by omega)]; exact G.2.1 k (by omega)
theorem gx_new (C : Cx p s m args meth c cc own D cy A) (G : Gy D cy A s.heap ad V S H locs) (hlo : lo ad ls PL) (okP : ∀ v, some v ∈ PL → okv V v) {t N index : Nat} {Cn : String} {T : u_T} (hc : vwCl[t]? = some (Cn, T, N)) (hu : ∀ w ∈ u_ws Cn T N, w ∈ UW) (ty : Nat → FieldType) (hty : ∀ k, k < N → parseFieldDescriptor (T k).2.2.1 = some (ty k)) (hdf : ∀ j, j < N → defaultValue (ty j) = vp_V ((fl t).map (fv ad (fun _ => 0) (fun _ => none) (fun _ => none))) j) (ht : t < 12) (hcl : Cond.classLink own index Cn ∈ UW) (hinst : Cond.instantiable Cn N ∈ UW) (hini : Cond.initialized Cn ∈ UW) (hcells : cells + 1 ≤ R.cells) (hslots : slots + N ≤ R.slots) (rs : List (Int ⊕ Option Nat)) (hrs : rest = rs.map (vS ad)) (okS : ∀ v ∈ rs, okv V v) (hdg : decode cc pc = .ok (.new index, 3))
    (kk : ∀ (ad' : Nat → Nat) (V' : Vt) (S' : Me) (H1 : Heap), V' = nV V t 0 → S' = nS V S → (∀ k, k < V.1 → ad' k = ad k) → exV V V' → lo ad' ls PL → Gy D cy A s.heap ad' V' S' H1 locs → W p l e R s m args below meth c H1 locs (cells + 1) (slots + N) Q (F0 m (pc + 3) ls (vR ad' (some V.1) :: rs.map (vS ad')))) : W p l e R s m args below meth c H locs cells slots Q (F0 m pc ls rest) := by
  have hts := C.2.2.2.1
  refine va_new (ci := t) (Ts := UW) C.1 C.2.1 hts hu ty hty C.2.2.1 (hts _ hcl) (hts _ hinst) (hts _ hini) C.2.2.2.2.1.1 G.1.1 G.D G.2.2 C.2.2.2.2.2.1 hc hdf hcells hslots hdg (fun q H1 hP hD hS => ?_)
  rw [← cf_o (cy := cy) (L := 0) ht] at hP hD
  have h := kk (nA V ad q) _ _ H1 rfl rfl nA_ag (exV.nw V t 0) (lo_mv nA_ag okP hlo) (Gy_nw G (by decide) hP hD hS)
  rw [vs_mv nA_ag okS, ← hrs, show vR (nA V ad q) (some V.1) = .ref q by simp [vR, va_rf, nA]] at h
  exact h
theorem cI_eq {cA : ClassId} (h1 : va_K D vwCl (tyl cy) s) (h2 : va_K D vwCl (tyl cy ++ [(cA, .int)]) s) : cA = cy.1 := Option.some.inj (((h2.2 4 (cA, .int) rfl).2).symm.trans (h1.2 0 (cy.1, .int) rfl).2)
theorem gx_newa (C : Cx p s m args meth c cc own D cy A) (G : Gy D cy A s.heap ad V S H locs) (hlo : lo ad ls PL) (okP : ∀ v, some v ∈ PL → okv V v) {n : Int} (rn : rng n) (N : Nat) (h0 : 0 ≤ n) (hN : n ≤ (N : Int)) (hNb : N ≤ 100000) (hcells : cells + 1 ≤ R.cells) (hslots : slots + N ≤ R.slots) (rs : List (Int ⊕ Option Nat)) (hrs : rest = rs.map (vS ad)) (okS : ∀ v ∈ rs, okv V v) (hdg : decode cc pc = .ok (.newarray .int, 2))
    (kk : ∀ (ad' : Nat → Nat) (V' : Vt) (S' : Me) (H1 : Heap), V' = nV V 12 n.toNat → S' = nS V S → (∀ k, k < V.1 → ad' k = ad k) → exV V V' → lo ad' ls PL → Gy D cy A s.heap ad' V' S' H1 locs → W p l e R s m args below meth c H1 locs (cells + 1) (slots + N) Q (F0 m (pc + 2) ls (vR ad' (some V.1) :: rs.map (vS ad')))) : W p l e R s m args below meth c H locs cells slots Q (F0 m pc ls (vI n :: rest)) := by
  have hts := C.2.2.2.1
  refine va_newa (atype := .int) (N' := n.toNat) (a0 := (n.toNat, .inl (fun _ => Int32.ofInt 0))) C.1 C.2.1 (hts _ uwArrI) rfl C.2.2.2.2.1.1 G.1.1 G.D G.2.2 C.2.2.2.2.2.1 (fun cA => rfl) (fun h => absurd ((rg_lt rn (show rng 0 by decide)).mp h) (by omega)) (rg_cl rn) (by show n.toNat * 4 ≤ 536870912; omega) hcells (by omega) hdg (fun q cA H1 hK' hP hD hS => ?_)
  have e9 := cI_eq C.2.2.2.2.1.1 hK'
  subst e9
  rw [← cf_i (cy := cy) (ad := ad) (t := 12) (L := n.toNat) (i := fun _ => 0) (p := fun _ => none) (f := fun _ => none) rfl] at hP hD
  have h := kk (nA V ad q) _ _ H1 rfl rfl nA_ag (exV.nw V 12 n.toNat) (lo_mv nA_ag okP hlo) (Gy_nw G (by omega) hP hD hS)
  rw [vs_mv nA_ag okS, ← hrs, show vR (nA V ad q) (some V.1) = .ref q by simp [vR, va_rf, nA]] at h
  exact W.widen (k := cells + 1) (n := slots + N) (Nat.le_refl _) (by omega) h
/-- THE CONTRACT of a method that may make cells, at most mc of ms slots -/
def qmA (below : List Frame) (D : va_G) (cy : ClassId × ClassId × ClassId × ClassId) (ad : Nat → Nat) (V : Vt) (A : Nat → Prop) (args : Array Value) (s : State) (mc ms : Nat) (Qo : Option (Int ⊕ Option Nat) → Vt → Me → Prop) : State → Prop := MQ below (fun _ st oc t => (∃ (r : Option (Int ⊕ Option Nat)) (ad' : Nat → Nat) (V' : Vt) (S' : Me), oc = .returned (r.map (vS ad')) ∧ (∀ v, r = some v → okv V' v) ∧ (∀ k, k < V.1 → ad' k = ad k) ∧ (∀ k, k < V'.1 → A (ad' k)) ∧ exV V V' ∧ Qo r V' S' ∧ Gx D cy ad' V' S' t.heap) ∧ va_F A st t) args s mc ms A
def KA (l : Launch) (D : va_G) (cy : ClassId × ClassId × ClassId × ClassId) (y : MethodName) (cc : ByteArray) (n : Nat) (rt : Option FieldType) (fr lc mc ms : Nat) (ad : Nat → Nat) (V : Vt) (S : Me) (vs : List (Int ⊕ Option Nat)) (Qo : Option (Int ⊕ Option Nat) → Vt → Me → Prop) : Prop :=
  ∀ sz : Nat, Met l y (.code y cc n rt :: UW) ({ frames := fr, cells := mc, slots := ms, locals := lc }) (va_Pc (vs.map (vS ad)) (fun U => U.heap.size = sz ∧ Gx D cy ad V S U.heap ∧ Kx D cy U)) (fun _ st oc t => (∃ (r : Option (Int ⊕ Option Nat)) (ad' : Nat → Nat) (V' : Vt) (S' : Me), oc = .returned (r.map (vS ad')) ∧ (∀ v, r = some v → okv V' v) ∧ (∀ k, k < V.1 → ad' k = ad k) ∧ (∀ k, k < V'.1 → RA ad V.1 sz (ad' k)) ∧ exV V V' ∧ Qo r V' S' ∧ Gx D cy ad' V' S' t.heap) ∧ va_F (RA ad V.1 sz) st t) mc ms (RA ad V.1 sz)
abbrev rmA (fr lc mc ms : Nat) : Room := { frames := fr, cells := mc, slots := ms, locals := lc }
theorem KA.of {y : MethodName} {cc : ByteArray} {n fr lc mc ms : Nat} {rt : Option FieldType} {vs : List (Int ⊕ Option Nat)} {Qo : Option (Int ⊕ Option Nat) → Vt → Me → Prop} {own : String} (hy : plainName y.cls = true) (ho : y.cls = own) (hvl : vs.length ≤ n)
    (body : ∀ (p : Program) (e : Env) (s : State) (m : MethodId) (args : Array Value) (below : List Frame) (meth : Method) (c : Code) (A : Nat → Prop) (ls : Array Slot) (H : Heap) (locs : List Loc), A = RA ad V.1 s.heap.size → Cx p s m args meth c cc own D cy A → meth.sig.returnType = rt → c.maxLocals = n → meth.name = y.name → lo ad ls (vs.map some ++ List.replicate (n - vs.length) none) → Gy D cy A s.heap ad V S H locs →
      W p l e (rmA fr lc mc ms) s m args below meth c H locs 0 0 (qmA below D cy ad V A args s mc ms Qo) (F0 m 0 ls [])) : KA l D cy y cc n rt fr lc mc ms ad V S vs Qo := by
  intro sz
  refine Met.ofW (cc := cc) (maxL := n) (ret := rt) hy rfl ?_
  intro p e s m args below meth c s₁ B hml hv
  obtain ⟨rfl, hsz, hG, hK⟩ := hv
  subst hsz
  have hts := atoms_spec (ws := (.code y cc n rt :: UW)) B.pre
  have hown : s.vm.findClass own = some m.cls := by rw [← ho]; exact findClass_of_methodNamed B.named
  have hl := lo_entry ad vs n hvl
  rw [lg_entry_eq]
  generalize (lg_sl (vs.map (vS ad)) ++ List.replicate (n - (lg_sl (vs.map (vS ad))).length) Slot.unset).toArray = ls at hl ⊢
  exact body p e s m _ below meth c _ ls s.heap [] rfl ⟨B.exec, B.bytes, hown, fun w hw => hts w (List.mem_cons_of_mem _ hw), hK, fun q h => Or.inr h, B.notSynchronized⟩ B.returns hml (name_of_methodNamed B.named B.method).1 hl ⟨hG, fun k hk => Or.inl ⟨k, hk, rfl⟩, va_S.rf⟩
def aI (Q : Int → Vt → Me → Prop) : Option (Int ⊕ Option Nat) → Vt → Me → Prop := fun r V S => ∃ x, r = some (.inl x) ∧ Q x V S
def aR (Q : Option Nat → Vt → Me → Prop) : Option (Int ⊕ Option Nat) → Vt → Me → Prop := fun r V S => ∃ x, r = some (.inr x) ∧ Q x V S
def aV (Q : Vt → Me → Prop) : Option (Int ⊕ Option Nat) → Vt → Me → Prop := fun r V S => r = none ∧ Q V S
theorem gx_iretA (C : Cx p s m args meth c cc own D cy A) {ad0 : Nat → Nat} {V0 : Vt} (G : Gy D cy A s.heap ad V S H locs) (hag : ∀ k, k < V0.1 → ad k = ad0 k) (hex : exV V0 V) {x : Int} {mc ms : Nat} {Qi : Int → Vt → Me → Prop} (hr : meth.sig.returnType = some .int) (rx : rng x) (h : Qi x V S) (hdg : decode cc pc = .ok (.ireturn, 1)) (hm : cells ≤ mc ∧ slots ≤ ms) : W p l e R s m args below meth c H locs cells slots (qmA below D cy ad0 V0 A args s mc ms (aI Qi)) (F0 m pc ls [vI x]) :=
  W.widen hm.1 hm.2 (W.iret C.1 C.2.1 hr (fun t ht _ => ⟨⟨some (.inl x), ad, V, S, rfl, fun v hv => by cases hv; exact rx, hag, G.2.1, hex, ⟨x, rfl, h⟩, by rw [ht]; exact G.1⟩, G.2.2.F ht⟩) G.2.2.2.2 hdg C.2.2.2.2.2.2)
theorem gx_aretA (C : Cx p s m args meth c cc own D cy A) {ad0 : Nat → Nat} {V0 : Vt} (G : Gy D cy A s.heap ad V S H locs) (hag : ∀ k, k < V0.1 → ad k = ad0 k) (hex : exV V0 V) {x : Option Nat} {mc ms : Nat} {Qi : Option Nat → Vt → Me → Prop} {rt : FieldType} (hr : meth.sig.returnType = some rt) (hrt : (∃ n, rt = .object n) ∨ ∃ t, rt = .array t) (hx : ∀ z, x = some z → z < V.1) (h : Qi x V S) (hdg : decode cc pc = .ok (.areturn, 1)) (hm : cells ≤ mc ∧ slots ≤ ms) : W p l e R s m args below meth c H locs cells slots (qmA below D cy ad0 V0 A args s mc ms (aR Qi)) (F0 m pc ls [vR ad x]) :=
  W.widen hm.1 hm.2 (W.aret C.1 C.2.1 hr hrt (by cases x; exact Or.inl rfl; exact Or.inr ⟨_, rfl⟩) (fun t ht _ => ⟨⟨some (.inr x), ad, V, S, rfl, fun v hv => by cases hv; exact hx, hag, G.2.1, hex, ⟨x, rfl, h⟩, by rw [ht]; exact G.1⟩, G.2.2.F ht⟩) G.2.2.2.2 hdg C.2.2.2.2.2.2)
theorem gx_vretA (C : Cx p s m args meth c cc own D cy A) {ad0 : Nat → Nat} {V0 : Vt} (G : Gy D cy A s.heap ad V S H locs) (hag : ∀ k, k < V0.1 → ad k = ad0 k) (hex : exV V0 V) {mc ms : Nat} {Qi : Vt → Me → Prop} (hr : meth.sig.returnType = none) (h : Qi V S) (hdg : decode cc pc = .ok (.return_, 1)) (hm : cells ≤ mc ∧ slots ≤ ms) : W p l e R s m args below meth c H locs cells slots (qmA below D cy ad0 V0 A args s mc ms (aV Qi)) (F0 m pc ls []) :=
  W.widen hm.1 hm.2 (W.vret C.1 C.2.1 hr (fun t ht _ => ⟨⟨none, ad, V, S, rfl, (fun v hv => by cases hv), hag, G.2.1, hex, ⟨rfl, h⟩, by rw [ht]; exact G.1⟩, G.2.2.F ht⟩) G.2.2.2.2 hdg C.2.2.2.2.2.2)
/-- behind a call that may make cells -/
theorem gx_backA (C : Cx p s m args meth c cc own D cy A) (G : Gy D cy A s.heap ad V S H locs) (hlo : lo ad ls PL) (okP : ∀ v, some v ∈ PL → okv V v) (rs : List (Int ⊕ Option Nat)) (okS : ∀ v ∈ rs, okv V v) {st0 : List Value} {mc ms : Nat} {Qo : Option (Int ⊕ Option Nat) → Vt → Me → Prop} (hr : va_Run p l e R s m args below meth c H locs cells slots mc ms (F0 m pc ls st0) (rs.map (vS ad)) (fun st oc t => (∃ (r : Option (Int ⊕ Option Nat)) (ad' : Nat → Nat) (V' : Vt) (S' : Me), oc = .returned (r.map (vS ad')) ∧ (∀ v, r = some v → okv V' v) ∧ (∀ k, k < V.1 → ad' k = ad k) ∧ (∀ k, k < V'.1 → RA ad V.1 H.size (ad' k)) ∧ exV V V' ∧ Qo r V' S' ∧ Gx D cy ad' V' S' t.heap) ∧ va_F (RA ad V.1 H.size) st t) (RA ad V.1 H.size))
    (kk : ∀ (r : Option (Int ⊕ Option Nat)) (ad' : Nat → Nat) (V' : Vt) (S' : Me) (H1 : Heap) (locs1 : List Loc), (∀ v, r = some v → okv V' v) → Qo r V' S' → (∀ k, k < V.1 → ad' k = ad k) → exV V V' → lo ad' ls PL → Gy D cy A s.heap ad' V' S' H1 locs1 → W p l e R s m args below meth c H1 locs1 (cells + mc) (slots + ms) Q (F0 m (pc + 3) ls ((r.map (vS ad')).toList ++ rs.map (vS ad')))) : W p l e R s m args below meth c H locs cells slots Q (F0 m pc ls st0) := by
  have hfree : ∀ q, RA ad V.1 H.size q → A q := by
    intro q hq
    rcases hq with ⟨k, hk, rfl⟩ | hq
    · exact G.2.1 k hk
    · exact C.2.2.2.2.2.1 q (Nat.le_trans G.2.2.1 hq)
  intro T hT X
  obtain ⟨v, st₀, t, T', L, h0, X', hL, e1, e2, ⟨⟨r, ad', V', S', hv, hok, hag, hA', hex, hq, hg⟩, hz, hk⟩, st⟩ := hr T hT X
  cases hv
  rw [h0] at hz hk
  have h9 := kk r ad' V' S' T'.heap (locs ++ L) hok hq hag hex (lo_mv hag okP hlo) ⟨by rw [e1]; exact hg, fun k hk => hfree _ (hA' k hk), Nat.le_trans G.2.2.1 (by rw [e1]; exact hz), fun q h1 h2 => by rw [e1, hk q (Nat.lt_of_lt_of_le h1 G.2.2.1) (fun z => h2 (hfree q z))]; exact G.2.2.2.1 q h1 h2, fun q hq => by
      rcases List.mem_append.mp hq with h | h
      · exact G.2.2.2.2 q h
      · exact hfree _ (hL q h)⟩
  rw [vs_mv hag okS] at h9
  obtain ⟨t2, a1, b1⟩ := h9 T' rfl X'
  exact ⟨t2, st t2 a1, b1⟩
theorem kaI {Qi : Int → Vt → Me → Prop} {rs : List (Int ⊕ Option Nat)} (kk : ∀ (x : Int) (ad' : Nat → Nat) (V' : Vt) (S' : Me) (H1 : Heap) (locs1 : List Loc), rng x → Qi x V' S' → (∀ k, k < V.1 → ad' k = ad k) → exV V V' → lo ad' ls PL → Gy D cy A s.heap ad' V' S' H1 locs1 → W p l e R s m args below meth c H1 locs1 cells slots Q (F0 m (pc + 3) ls (vI x :: rs.map (vS ad')))) : ∀ (r : Option (Int ⊕ Option Nat)) (ad' : Nat → Nat) (V' : Vt) (S' : Me) (H1 : Heap) (locs1 : List Loc), (∀ v, r = some v → okv V' v) → aI Qi r V' S' → (∀ k, k < V.1 → ad' k = ad k) → exV V V' → lo ad' ls PL → Gy D cy A s.heap ad' V' S' H1 locs1 → W p l e R s m args below meth c H1 locs1 cells slots Q (F0 m (pc + 3) ls ((r.map (vS ad')).toList ++ rs.map (vS ad'))) := by
  intro r ad' V' S' H1 locs1 ok hq
  obtain ⟨x, rfl, hq⟩ := hq
  exact kk x ad' V' S' H1 locs1 (ok _ rfl) hq
theorem kaR {Qi : Option Nat → Vt → Me → Prop} {rs : List (Int ⊕ Option Nat)} (kk : ∀ (x : Option Nat) (ad' : Nat → Nat) (V' : Vt) (S' : Me) (H1 : Heap) (locs1 : List Loc), (∀ z, x = some z → z < V'.1) → Qi x V' S' → (∀ k, k < V.1 → ad' k = ad k) → exV V V' → lo ad' ls PL → Gy D cy A s.heap ad' V' S' H1 locs1 → W p l e R s m args below meth c H1 locs1 cells slots Q (F0 m (pc + 3) ls (vR ad' x :: rs.map (vS ad')))) : ∀ (r : Option (Int ⊕ Option Nat)) (ad' : Nat → Nat) (V' : Vt) (S' : Me) (H1 : Heap) (locs1 : List Loc), (∀ v, r = some v → okv V' v) → aR Qi r V' S' → (∀ k, k < V.1 → ad' k = ad k) → exV V V' → lo ad' ls PL → Gy D cy A s.heap ad' V' S' H1 locs1 → W p l e R s m args below meth c H1 locs1 cells slots Q (F0 m (pc + 3) ls ((r.map (vS ad')).toList ++ rs.map (vS ad'))) := by
  intro r ad' V' S' H1 locs1 ok hq
  obtain ⟨x, rfl, hq⟩ := hq
  exact kk x ad' V' S' H1 locs1 (ok _ rfl) hq
/-- invokevirtual of such a method that its receiver's class declares -/
theorem gx_callVA (C : Cx p s m args meth c cc own D cy A) (G : Gy D cy A s.heap ad V S H locs) (hlo : lo ad ls PL) (okP : ∀ v, some v ∈ PL → okv V v) (hml : c.maxLocals = PL.length) {y : MethodName} {bc : ByteArray} {n fr lc mc ms na index : Nat} {rt : Option FieldType} {vs : List (Int ⊕ Option Nat)} {Qo : Option (Int ⊕ Option Nat) → Vt → Me → Prop} {r : Option Nat} {z : Nat}
    (hK : KA l D cy y bc n rt fr lc mc ms ad V S (.inr (some z) :: vs) Qo) (hz : r = some z) (hzl : z < V.1) {q9 : vw_C} (hc : vwCl[V.2.1 z]? = some q9) (ht : V.2.1 z < 12) (hy : y.cls = q9.1)
    (hcode : Cond.code y bc n rt ∈ UW) (hlink : Cond.methodLink own index y ∈ UW) (hinst : Cond.instanceMethod y ∈ UW) (hsel : Cond.selects q9.1 y y ∈ UW) (hini : Cond.initialized q9.1 ∈ UW)
    (hd : y.cls ≠ "java/lang/invoke/MethodHandle" ∧ y.cls ≠ "java/lang/invoke/VarHandle" ∧ (parseMethodDescriptor y.desc).map (fun d => d.parameters.length) = some na) (hR : fr + 1 ≤ R.frames ∧ 8 + (n + 11) + lc ≤ R.locals) (hRc : cells + mc ≤ R.cells ∧ slots + ms ≤ R.slots)
    (hn : vs.length = na) (rs : List (Int ⊕ Option Nat)) (okS : ∀ v ∈ rs, okv V v) {st0 : List Value} (hst : st0 = (vs.map (vS ad)).reverse ++ vR ad r :: rs.map (vS ad)) (hrl : rs.length ≤ 8) (hdg : decode cc pc = .ok (.invokevirtual index, 3))
    (kk : ∀ (r : Option (Int ⊕ Option Nat)) (ad' : Nat → Nat) (V' : Vt) (S' : Me) (H1 : Heap) (locs1 : List Loc), (∀ v, r = some v → okv V' v) → Qo r V' S' → (∀ k, k < V.1 → ad' k = ad k) → exV V V' → lo ad' ls PL → Gy D cy A s.heap ad' V' S' H1 locs1 → W p l e R s m args below meth c H1 locs1 (cells + mc) (slots + ms) Q (F0 m (pc + 3) ls ((r.map (vS ad')).toList ++ rs.map (vS ad')))) : W p l e R s m args below meth c H locs cells slots Q (F0 m pc ls st0) := by
  subst hz
  have hts := C.2.2.2.1
  refine gx_backA C G hlo okP rs okS (va_runV (C := q9.1) (b := ad z) (As := vs.map (vS ad)) (Ts := UW) (own := own) (nL := PL.length) ⟨C.1, C.2.1, hml, C.2.2.1, hts⟩ (hK H.size) ⟨callB_of (ws' := UW) na hts (uw_in hcode) rfl rfl rfl (by rw [hy]; exact hts _ hini) (hts _ hlink) hd hR, hts _ hinst, hts _ hsel⟩ ⟨KM.blind (y := y) (cc := bc), va_recv C.2.2.2.2.1.1 G.1.1 hc (wo_o hzl ht), fun U hU hW => ⟨rfl, by rw [hU], by rw [hU]; exact G.1, Kx.warm hW C.2.2.2.2.1⟩⟩ rfl (by rw [List.length_map]; exact hn) hlo.1 hst (lv_room (hw_le ad rs rfl hrl)) hdg hRc) kk
/-- a constructor that makes no cells -/
theorem gx_callI (C : Cx p s m args meth c cc own D cy A) (G : Gy D cy A s.heap ad V S H locs) (hlo : lo ad ls PL) (hml : c.maxLocals = PL.length) {y : MethodName} {bc : ByteArray} {n fr lc na index : Nat} {vs : List (Int ⊕ Option Nat)} {Qo : Option (Int ⊕ Option Nat) → Me → Prop} {r : Option Nat} {z : Nat}
    (hK : KM l D cy y bc n none fr lc ad V S (.inr (some z) :: vs) Qo) (hz : r = some z)
    (hcode : Cond.code y bc n none ∈ UW) (hlink : Cond.methodLink own index y ∈ UW) (hinst : Cond.instanceMethod y ∈ UW) (hini : Cond.initialized y.cls ∈ UW) (hnm : y.name = "<init>")
    (hd : y.cls ≠ "java/lang/invoke/MethodHandle" ∧ y.cls ≠ "java/lang/invoke/VarHandle" ∧ (parseMethodDescriptor y.desc).map (fun d => d.parameters.length) = some na) (hR : fr + 1 ≤ R.frames ∧ 8 + (n + 11) + lc ≤ R.locals) (hRc : cells ≤ R.cells ∧ slots ≤ R.slots)
    (hn : vs.length = na) {st0 : List Value} (hst : st0 = (vs.map (vS ad)).reverse ++ vR ad r :: rest) (hW : (rest.map fun v => v.category).sum ≤ 8) (hdg : decode cc pc = .ok (.invokespecial index, 3))
    (kk : ∀ (r : Option (Int ⊕ Option Nat)) (S' : Me) (H1 : Heap) (locs1 : List Loc), (∀ v, r = some v → okv V v) → Qo r S' → Gy D cy A s.heap ad V S' H1 locs1 → W p l e R s m args below meth c H1 locs1 cells slots Q (F0 m (pc + 3) ls ((r.map (vS ad)).toList ++ rest))) : W p l e R s m args below meth c H locs cells slots Q (F0 m pc ls st0) := by
  subst hz
  have hts := C.2.2.2.1
  refine gx_back C G (va_runI (b := ad z) (As := vs.map (vS ad)) (Ts := UW) (own := own) (nL := PL.length) ⟨C.1, C.2.1, hml, C.2.2.1, hts⟩ (hK H.size) ⟨callB_of (ws' := UW) na hts (uw_in hcode) rfl rfl rfl (hts _ hini) (hts _ hlink) hd hR, hnm, hts _ hinst⟩ ⟨KM.blind (y := y) (cc := bc), fun U hU hW => ⟨rfl, by rw [hU], by rw [hU]; exact G.1, Kx.warm hW C.2.2.2.2.1⟩⟩ rfl (by rw [List.length_map]; exact hn) hlo.1 hst (lv_room hW) hdg ⟨hRc.1, hRc.2⟩) kk
theorem gx_objInit (C : Cx p s m args meth c cc own D cy A) (hlo : lo ad ls PL) (hml : c.maxLocals = PL.length) {r : Option Nat} {z : Nat} (hz : r = some z) {index : Nat} (hlink : Cond.methodLink own index Lib.objectInit ∈ UW) (hR : 1 ≤ R.frames ∧ 20 ≤ R.locals) (hW : (rest.map fun v => v.category).sum ≤ 8) (hdg : decode cc pc = .ok (.invokespecial index, 3)) (kk : W p l e R s m args below meth c H locs cells slots Q (F0 m (pc + 3) ls rest)) : W p l e R s m args below meth c H locs cells slots Q (F0 m pc ls (vR ad r :: rest)) := by
  subst hz
  have hts := C.2.2.2.1
  refine W.objInit C.1 C.2.1 C.2.2.1 (hts _ hlink) (hts _ uwObjI) (hts _ uwObjC) rfl (hlo.1.trans hml.symm) rfl hdg hR.1 ?_ kk
  have := lv_room (m := m) (pc := pc) (ls := ls) (rest := vR ad (some z) :: rest) hW
  omega
/-- a final int field, in its class's constructor -/
theorem gx_putIF (C : Cx p s m args meth c cc own D cy A) (hmn : meth.name = "<init>") (G : Gy D cy A s.heap ad V S H locs) {r : Option Nat} {z : Nat} (hz : r = some z) (hzl : z < V.1) {j : Nat} {nm ds : String} (hF : ∃ k, FO (V.2.1 z) k 0 j own nm ds true .int) {x : Int} (rx : rng x) {index : Nat} (hl : Cond.fieldLink own index own nm ds ∈ UW) (hdg : decode cc pc = .ok (.putfield index, 3))
    (kk : ∀ (H1 : Heap) (locs1 : List Loc), Gy D cy A s.heap ad V (sI S z j x) H1 locs1 → W p l e R s m args below meth c H1 locs1 cells slots Q (F0 m (pc + 3) ls rest)) : W p l e R s m args below meth c H locs cells slots Q (F0 m pc ls (vI x :: vR ad r :: rest)) := by
  subst hz
  obtain ⟨k, Cn, T, N, ty0, hc, hu, hty, hnm, hk, hT, hpd, ht, hfl⟩ := hF
  refine va_putF (Ts := UW) (ref := own) (own := own) C.1 C.2.1 C.2.2.2.1 hu ty0 hty hnm C.2.2.1 C.2.2.2.2.1.1 G.1.1 G.D G.2.2 z (wo_o hzl ht) hc k hk (by rw [hT]; exact C.2.2.2.1 _ hl) (by rw [hT]; exact fun _ h => h) (by rw [hT]) hmn (by rw [hT]) (by rw [hT]; exact hpd) (v := vI x) rfl rfl (by rw [List.length_map]; exact (List.getElem?_eq_some_iff.mp hfl).1) hdg (fun H1 locs1 hP _ hS => ?_)
  rw [wo_sI (j := j) (x := x) hzl (by rw [cf_o ht, fl_set (i' := fun j' => if j' = j then x else S.1 z j') (p' := S.2 z) hfl (by simp [fv]) (fun j' h => if_neg h) (fun _ _ => rfl)])] at hP
  exact kk H1 locs1 ⟨Gx_sI rx hP G.1, G.2.1, hS⟩
end GA
