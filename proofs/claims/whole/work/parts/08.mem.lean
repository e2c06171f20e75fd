/-! ===== whole numbers for the machine's ints, names for its cells ===== -/
abbrev rng (x : Int) : Prop := -2147483648 ≤ x ∧ x ≤ 2147483647
def vI (x : Int) : Value := .int (Int32.ofInt x)
def vL (x : Int) : Value := .long (Int64.ofInt x)
def vR (ad : Nat → Nat) (r : Option Nat) : Value := va_rf (r.map ad)
def vS (ad : Nat → Nat) : Int ⊕ Option Nat → Value
  | .inl x => vI x
  | .inr r => vR ad r
theorem rg_t {x : Int} (h : rng x) : (Int32.ofInt x).toInt = x := Int32.toInt_ofInt_of_le (by omega) (by omega)
theorem rg_le {x y : Int} (hx : rng x) (hy : rng y) : Int32.ofInt x ≤ Int32.ofInt y ↔ x ≤ y := by rw [Int32.le_iff_toInt_le, rg_t hx, rg_t hy]
theorem rg_lt {x y : Int} (hx : rng x) (hy : rng y) : Int32.ofInt x < Int32.ofInt y ↔ x < y := by rw [Int32.lt_iff_toInt_lt, rg_t hx, rg_t hy]
theorem rg_eq {x y : Int} (hx : rng x) (hy : rng y) : Int32.ofInt x = Int32.ofInt y ↔ x = y := by rw [← Int32.toInt_inj, rg_t hx, rg_t hy]
theorem rg_cl {x : Int} (hx : rng x) : (Int32.ofInt x).toNatClampNeg = x.toNat := Int32.toNatClampNeg_ofInt_of_le (by omega) (by omega)
theorem rg_o (z : Int32) : rng z.toInt := by
  have h1 := z.le_toInt
  have h2 := z.toInt_lt
  omega
theorem rg_in {x : Int} {n : Nat} (hx : rng x) (h0 : 0 ≤ x) (h1 : x < n) : vp_in (Int32.ofInt x) n := by
  rw [vp_in_iff, rg_t hx]
  exact ⟨h0, h1⟩
def bAnd (x y : Int) : Int := (Int32.ofInt x &&& Int32.ofInt y).toInt
def bOr (x y : Int) : Int := (Int32.ofInt x ||| Int32.ofInt y).toInt
def bXor (x y : Int) : Int := (Int32.ofInt x ^^^ Int32.ofInt y).toInt
def bShl (x y : Int) : Int := (Int32.ofInt x <<< (Int32.ofInt y &&& 31)).toInt
def bShr (x y : Int) : Int := (Int32.ofInt x >>> (Int32.ofInt y &&& 31)).toInt
theorem rg_idiv {x y : Int} (hx : rng x) (hy : rng y) : Int32.ofInt (x.tdiv y) = Int32.ofInt x / Int32.ofInt y := by
  have h : Int32.minValue.toInt = -2147483648 := by decide
  have h' : Int32.maxValue.toInt = 2147483647 := by decide
  exact Int32.ofInt_tdiv (by omega) (by omega) (by omega) (by omega)
theorem rg_irem {x y : Int} (hx : rng x) (hy : rng y) : Int32.ofInt (x.tmod y) = Int32.ofInt x - Int32.ofInt x / Int32.ofInt y * Int32.ofInt y := by
  rw [← rg_idiv hx hy, ← Int32.ofInt_mul, ← Int32.ofInt_sub, Int.tmod_def]
  congr 1
  rw [Int.mul_comm]
theorem vS_cat (ad : Nat → Nat) (v : Int ⊕ Option Nat) : (vS ad v).category = 1 := by
  rcases v with x | r
  · rfl
  · cases r <;> rfl
/-! ===== the words of the tables, for every method the same ===== -/
def UW : List Cond := lw_tbl.filter goodWord
theorem uwT {w : Cond} (i : Nat) (h : tables_1[i]? = some w) (g : goodWord w = true) : w ∈ UW := List.mem_filter.mpr ⟨List.mem_append_right _ (List.mem_of_getElem? h), g⟩
theorem uwP {w : Cond} (i : Nat) (h : (k2_sels lw_privs)[i]? = some w) (g : goodWord w = true) : w ∈ UW := List.mem_filter.mpr ⟨List.mem_append_left _ (List.mem_of_getElem? h), g⟩
theorem uw_all (ws : List Cond) (ps : List Nat) (hp : ps.map (fun i => tables_1[i]?) = ws.map some) (hg : ws.all goodWord = true) : ∀ w ∈ ws, w ∈ UW := by
  intro w hw
  have h1 : some w ∈ ps.map (fun i => tables_1[i]?) := by rw [hp]; exact List.mem_map.mpr ⟨w, hw, rfl⟩
  obtain ⟨i, -, hi⟩ := List.mem_map.mp h1
  exact uwT i hi (List.all_eq_true.mp hg w hw)
theorem uw_good : GoodIn UW UW := fun _ hw => ⟨hw, good_of_word (List.mem_filter.mp hw).2⟩
theorem uw_in {y : MethodName} {cc : ByteArray} {n : Nat} {r : Option FieldType} (h : Cond.code y cc n r ∈ UW) : GoodIn UW (.code y cc n r :: UW) := fun w hw => by
  rcases List.mem_cons.mp hw with e | e
  · rw [e]; exact uw_good _ h
  · exact uw_good _ e
/-! ===== memory: ints S.1, changing references S.2; the fixed part V: how many cells, their types, lengths, final references ===== -/
abbrev Me : Type := (Nat → Nat → Int) × (Nat → Nat → Option Nat)
abbrev Vt : Type := Nat × (Nat → Nat) × (Nat → Nat) × (Nat → Nat → Option Nat)
def sI (S : Me) (a k : Nat) (x : Int) : Me := (fun b j => if b = a ∧ j = k then x else S.1 b j, S.2)
def sP (S : Me) (a k : Nat) (r : Option Nat) : Me := (S.1, fun b j => if b = a ∧ j = k then r else S.2 b j)
theorem sI_1 (S : Me) (a k : Nat) (x : Int) (b j : Nat) : (sI S a k x).1 b j = if b = a ∧ j = k then x else S.1 b j := rfl
theorem sI_2 (S : Me) (a k : Nat) (x : Int) : (sI S a k x).2 = S.2 := rfl
theorem sP_1 (S : Me) (a k : Nat) (r : Option Nat) : (sP S a k r).1 = S.1 := rfl
theorem sP_2 (S : Me) (a k : Nat) (r : Option Nat) (b j : Nat) : (sP S a k r).2 b j = if b = a ∧ j = k then r else S.2 b j := rfl
theorem nd_inj {l : List Nat} (h : l.Nodup) {a b x : Nat} (ha : l[a]? = some x) (hb : l[b]? = some x) : a = b := by
  obtain ⟨a1, a2⟩ := List.getElem?_eq_some_iff.mp ha
  obtain ⟨b1, b2⟩ := List.getElem?_eq_some_iff.mp hb
  rcases Nat.lt_trichotomy a b with q | q | q
  · exact absurd (a2.trans b2.symm) (List.pairwise_iff_getElem.mp h a b a1 b1 q)
  · exact q
  · exact absurd (b2.trans a2.symm) (List.pairwise_iff_getElem.mp h b a b1 a1 q)
/-- a class's fields: 0 an int, 1 a changing reference, 2 a final one, 3 a boolean; its place -/
def fl : Nat → List (Nat × Nat)
  | 0 => [(2, 0), (2, 1), (2, 2), (2, 3), (2, 4), (2, 5), (2, 6), (0, 7), (0, 8)]
  | 1 => [(0, 0), (0, 1), (0, 2), (0, 3), (0, 4), (0, 5), (0, 6), (0, 7), (1, 8), (1, 9), (0, 10)]
  | 2 => [(0, 11), (0, 0), (0, 1), (0, 2), (0, 3), (0, 4), (0, 5), (0, 6), (0, 7), (1, 8), (1, 9), (0, 10), (0, 12)]
  | 3 => [(2, 0), (2, 1)]
  | 4 => [(2, 0), (2, 1), (2, 2), (2, 3), (2, 4), (2, 5), (2, 6), (0, 7), (0, 8), (0, 9), (0, 10), (0, 11)]
  | 5 => [(0, 0), (0, 1), (0, 2), (0, 3), (0, 4), (0, 5), (0, 6), (0, 7), (1, 8), (1, 9), (0, 10)]
  | 6 => [(2, 0), (2, 1), (2, 2), (2, 3), (1, 4), (1, 5), (0, 6), (0, 7), (0, 8), (0, 9), (0, 10)]
  | 7 => [(1, 0), (1, 1), (3, 2)]
  | 8 => [(0, 11), (0, 0), (0, 1), (0, 2), (0, 3), (0, 4), (0, 5), (0, 6), (0, 7), (1, 8), (1, 9), (0, 10)]
  | 9 => [(0, 0), (0, 1), (0, 2), (0, 3), (0, 4), (0, 5), (0, 6), (0, 7), (1, 8), (1, 9), (0, 10), (0, 11)]
  | 10 => [(2, 0), (2, 1), (2, 2), (2, 3), (2, 4), (2, 5), (0, 6), (0, 7), (0, 8), (0, 9), (0, 10), (0, 11), (0, 12), (0, 13), (0, 14), (1, 15)]
  | 11 => [(0, 0), (2, 1), (0, 2), (0, 3), (0, 4), (0, 5), (0, 6), (0, 7), (0, 8), (0, 9), (0, 10), (2, 11), (2, 12), (0, 13), (0, 14), (2, 15), (2, 16), (2, 17), (2, 18), (2, 19), (2, 20), (2, 21), (2, 22), (2, 23), (0, 24), (0, 25), (0, 26), (2, 27), (2, 28), (2, 29), (0, 30), (2, 31), (2, 32), (2, 33), (2, 34), (2, 35), (2, 36), (0, 37), (2, 38), (0, 39), (0, 40), (0, 41), (0, 42), (2, 43), (2, 44), (2, 45), (2, 46), (2, 47), (2, 48), (2, 49)]
  | _ => []
theorem fl_nd : ∀ t, ((fl t).map (·.2)).Nodup := by
  intro t
  match t with
  | 0 => exact (by decide)
  | 1 => exact (by decide)
  | 2 => exact (by decide)
  | 3 => exact (by decide)
  | 4 => exact (by decide)
  | 5 => exact (by decide)
  | 6 => exact (by decide)
  | 7 => exact (by decide)
  | 8 => exact (by decide)
  | 9 => exact (by decide)
  | 10 => exact (by decide)
  | 11 => exact (by decide)
  | _ + 12 => exact List.nodup_nil
def fv (ad : Nat → Nat) (i : Nat → Int) (p f : Nat → Option Nat) (q : Nat × Nat) : Value := match q.1 with
  | 0 => vI (i q.2)
  | 1 => vR ad (p q.2)
  | 2 => vR ad (f q.2)
  | _ => vI (i q.2)
def cf (cy : ClassId × ClassId × ClassId × ClassId) (ad : Nat → Nat) (t L : Nat) (i : Nat → Int) (p f : Nat → Option Nat) : va_E :=
  if t < 12 then .inr (t, (fl t).map (fv ad i p f))
  else if t = 12 then .inl (cy.1, L, .inl (fun j => Int32.ofInt (i j)))
  else if t = 13 then .inl (cy.2.1, L, .inr (.inr (.inr (.inr (fun j => (p j).map ad)))))
  else if t = 14 then .inl (cy.2.2.1, L, .inr (.inr (.inr (.inr (fun j => (p j).map ad)))))
  else .inl (cy.2.2.2, L, .inr (.inl (fun j => Int64.ofInt (i j))))
def wo (cy : ClassId × ClassId × ClassId × ClassId) (ad : Nat → Nat) (V : Vt) (S : Me) : va_W := (List.range V.1).map (fun a => (ad a, cf cy ad (V.2.1 a) (V.2.2.1 a) (S.1 a) (S.2 a) (V.2.2.2 a)))
theorem wo_at {cy : ClassId × ClassId × ClassId × ClassId} {ad : Nat → Nat} {V : Vt} {S : Me} {a : Nat} (h : a < V.1) : (wo cy ad V S)[a]? = some (ad a, cf cy ad (V.2.1 a) (V.2.2.1 a) (S.1 a) (S.2 a) (V.2.2.2 a)) := by
  simp [wo, h]
theorem wo_at' {cy : ClassId × ClassId × ClassId × ClassId} {ad : Nat → Nat} {V : Vt} {S : Me} {a : Nat} {q : Nat × va_E} (h : (wo cy ad V S)[a]? = some q) : a < V.1 ∧ q = (ad a, cf cy ad (V.2.1 a) (V.2.2.1 a) (S.1 a) (S.2 a) (V.2.2.2 a)) := by
  have h1 : a < V.1 := by
    rcases Nat.lt_or_ge a V.1 with h2 | h2
    · exact h2
    · have : (wo cy ad V S)[a]? = none := by simp [wo, h2]
      rw [this] at h; cases h
  rw [wo_at h1] at h
  exact ⟨h1, (Option.some.inj h).symm⟩
theorem wo_set {cy : ClassId × ClassId × ClassId × ClassId} {ad : Nat → Nat} {V : Vt} {S S' : Me} {a : Nat} {e : va_E} (ha : a < V.1) (h1 : ∀ b, b ≠ a → S'.1 b = S.1 b) (h2 : ∀ b, b ≠ a → S'.2 b = S.2 b) (he : cf cy ad (V.2.1 a) (V.2.2.1 a) (S'.1 a) (S'.2 a) (V.2.2.2 a) = e) : (wo cy ad V S).set a (ad a, e) = wo cy ad V S' := by
  apply List.ext_getElem?
  intro b
  rw [List.getElem?_set]
  by_cases hb : a = b
  · subst hb
    rw [if_pos rfl, if_pos (by simp [wo, ha]), wo_at ha, he]
  · rw [if_neg hb]
    rcases Nat.lt_or_ge b V.1 with hl | hl
    · rw [wo_at hl, wo_at hl, h1 b (Ne.symm hb), h2 b (Ne.symm hb)]
    · simp [wo, hl]
theorem fl_set {ad : Nat → Nat} {i i' : Nat → Int} {p p' f : Nat → Option Nat} {t k kd j : Nat} {v : Value} (hk : (fl t)[k]? = some (kd, j)) (hv : fv ad i' p' f (kd, j) = v) (hi : ∀ j', j' ≠ j → i' j' = i j') (hp : ∀ j', j' ≠ j → p' j' = p j') : ((fl t).map (fv ad i p f)).set k v = (fl t).map (fv ad i' p' f) := by
  apply List.ext_getElem?
  intro b
  rw [List.getElem?_set]
  by_cases hb : k = b
  · subst hb
    have hkl : k < (fl t).length := (List.getElem?_eq_some_iff.mp hk).1
    rw [if_pos rfl, List.getElem?_map, hk, if_pos (by simpa using hkl)]
    simp [hv]
  · rw [if_neg hb, List.getElem?_map, List.getElem?_map]
    cases hq : (fl t)[b]? with
    | none => rfl
    | some q =>
      obtain ⟨kq, jq⟩ := q
      have hne : jq ≠ j := by
        intro e
        subst e
        have hbl : b < (fl t).length := (List.getElem?_eq_some_iff.mp hq).1
        have hkl : k < (fl t).length := (List.getElem?_eq_some_iff.mp hk).1
        have h1 : ((fl t).map (·.2))[b]? = some jq := by rw [List.getElem?_map, hq]; rfl
        have h2 : ((fl t).map (·.2))[k]? = some jq := by rw [List.getElem?_map, hk]; rfl
        exact hb (nd_inj (fl_nd t) h2 h1)
      simp only [Option.map_some, fv]
      split <;> simp only [hi jq hne, hp jq hne]
theorem cf_o {cy : ClassId × ClassId × ClassId × ClassId} {ad : Nat → Nat} {t L : Nat} {i : Nat → Int} {p f : Nat → Option Nat} (h : t < 12) : cf cy ad t L i p f = .inr (t, (fl t).map (fv ad i p f)) := by simp [cf, h]
theorem cf_i {cy : ClassId × ClassId × ClassId × ClassId} {ad : Nat → Nat} {t L : Nat} {i : Nat → Int} {p f : Nat → Option Nat} (h : t = 12) : cf cy ad t L i p f = .inl (cy.1, L, .inl (fun j => Int32.ofInt (i j))) := by subst h; rfl
theorem cf_a {cy : ClassId × ClassId × ClassId × ClassId} {ad : Nat → Nat} {t L : Nat} {i : Nat → Int} {p f : Nat → Option Nat} (h : t = 13) : cf cy ad t L i p f = .inl (cy.2.1, L, .inr (.inr (.inr (.inr (fun j => (p j).map ad))))) := by subst h; rfl
theorem cf_s {cy : ClassId × ClassId × ClassId × ClassId} {ad : Nat → Nat} {t L : Nat} {i : Nat → Int} {p f : Nat → Option Nat} (h : t = 14) : cf cy ad t L i p f = .inl (cy.2.2.1, L, .inr (.inr (.inr (.inr (fun j => (p j).map ad))))) := by subst h; rfl
theorem cf_l {cy : ClassId × ClassId × ClassId × ClassId} {ad : Nat → Nat} {t L : Nat} {i : Nat → Int} {p f : Nat → Option Nat} (h : t = 15) : cf cy ad t L i p f = .inl (cy.2.2.2, L, .inr (.inl (fun j => Int64.ofInt (i j)))) := by subst h; rfl
/-- the heap holds the memory -/
def Gx (D : va_G) (cy : ClassId × ClassId × ClassId × ClassId) (ad : Nat → Nat) (V : Vt) (S : Me) (H : Heap) : Prop :=
  va_P D vwCl (wo cy ad V S) H ∧ (∀ i j, i < V.1 → j < V.1 → ad i = ad j → i = j) ∧ (∀ a k, rng (S.1 a k)) ∧ (∀ a k z, S.2 a k = some z → z < V.1) ∧ (∀ a k z, V.2.2.2 a k = some z → z < V.1) ∧ (∀ a, V.2.2.1 a ≤ 2147483647)
def RA (ad : Nat → Nat) (n sz : Nat) : Nat → Prop := fun q => (∃ k, k < n ∧ ad k = q) ∨ sz ≤ q
def tyl (cy : ClassId × ClassId × ClassId × ClassId) : List (ClassId × FieldType) := [(cy.1, .int), (cy.2.1, .object "RowBank$Ask"), (cy.2.2.1, .object "RowBank$Shelf"), (cy.2.2.2, .long)]
/-- the heap holds the memory, which lies in A; nothing else has changed since H0 -/
def Gy (D : va_G) (cy : ClassId × ClassId × ClassId × ClassId) (A : Nat → Prop) (H0 : Heap) (ad : Nat → Nat) (V : Vt) (S : Me) (H : Heap) (locs : List Loc) : Prop := Gx D cy ad V S H ∧ (∀ k, k < V.1 → A (ad k)) ∧ va_S A H0 H locs
theorem wo_D {cy : ClassId × ClassId × ClassId × ClassId} {A : Nat → Prop} {ad : Nat → Nat} {V : Vt} {S : Me} (hi : ∀ i j, i < V.1 → j < V.1 → ad i = ad j → i = j) (hA : ∀ k, k < V.1 → A (ad k)) : va_D A (wo cy ad V S) := by
  refine ⟨fun i j p q hp hq e => ?_, fun k q hq => ?_⟩
  · obtain ⟨h1, rfl⟩ := wo_at' hp
    obtain ⟨h2, rfl⟩ := wo_at' hq
    exact hi i j h1 h2 e
  · obtain ⟨h1, rfl⟩ := wo_at' hq
    exact hA k h1
theorem Gy.D {D : va_G} {cy : ClassId × ClassId × ClassId × ClassId} {A : Nat → Prop} {H0 : Heap} {ad : Nat → Nat} {V : Vt} {S : Me} {H : Heap} {locs : List Loc} (h : Gy D cy A H0 ad V S H locs) : va_D A (wo cy ad V S) := wo_D h.1.2.1 h.2.1
theorem Gy.r {D : va_G} {cy : ClassId × ClassId × ClassId × ClassId} {A : Nat → Prop} {H0 : Heap} {ad : Nat → Nat} {V : Vt} {S : Me} {H : Heap} {locs : List Loc} (h : Gy D cy A H0 ad V S H locs) (a k : Nat) : rng (S.1 a k) := h.1.2.2.1 a k
theorem Gy.v {D : va_G} {cy : ClassId × ClassId × ClassId × ClassId} {A : Nat → Prop} {H0 : Heap} {ad : Nat → Nat} {V : Vt} {S : Me} {H : Heap} {locs : List Loc} (h : Gy D cy A H0 ad V S H locs) (a k : Nat) : ∀ z, S.2 a k = some z → z < V.1 := h.1.2.2.2.1 a k
theorem Gy.f {D : va_G} {cy : ClassId × ClassId × ClassId × ClassId} {A : Nat → Prop} {H0 : Heap} {ad : Nat → Nat} {V : Vt} {S : Me} {H : Heap} {locs : List Loc} (h : Gy D cy A H0 ad V S H locs) (a k : Nat) : ∀ z, V.2.2.2 a k = some z → z < V.1 := h.1.2.2.2.2.1 a k
theorem Gy.l {D : va_G} {cy : ClassId × ClassId × ClassId × ClassId} {A : Nat → Prop} {H0 : Heap} {ad : Nat → Nat} {V : Vt} {S : Me} {H : Heap} {locs : List Loc} (h : Gy D cy A H0 ad V S H locs) (a : Nat) : rng (V.2.2.1 a : Int) := by
  have := h.1.2.2.2.2.2 a
  omega
/-- field k of class t: its kind, its place in the memory, its name in the tables -/
def FO (t k kd j : Nat) (dcl nm ds : String) (fin : Bool) (ty : FieldType) : Prop := ∃ (C : String) (T : u_T) (N : Nat) (ty0 : Nat → FieldType), vwCl[t]? = some (C, T, N) ∧ (∀ w ∈ u_ws C T N, w ∈ UW) ∧ (∀ k, k < N → parseFieldDescriptor (T k).2.2.1 = some (ty0 k)) ∧ (∀ a, a < N → ∀ b, b < N → a ≠ b → (T a).2.1 ≠ (T b).2.1) ∧ k < N ∧ T k = (dcl, nm, ds, fin) ∧ parseFieldDescriptor ds = some ty ∧ t < 12 ∧ (fl t)[k]? = some (kd, j)
/-- words of the tables that a call doesn't carry by itself -/
def NW : List Cond := [Cond.methodLinkNest RX11 22 yX1_init RX11, Cond.methodLinkNest RX11 29 yX4_init RX11, Cond.methodLinkNest RX11 36 yX7_init RX11, Cond.arrayOver (.object RX0), Cond.arrayOver (.object RX8), Cond.methodLinkNest RX11 88 yX8_init RX11, Cond.declares (⟨RX0, "kind", "()I"⟩ : MethodName), Cond.methodLinkNest RX1 59 yX5_forget RX11, Cond.castable "[I" "java/lang/Cloneable", Cond.castable "java/lang/UnsupportedOperationException" "java/lang/UnsupportedOperationException", Cond.declares (⟨"java/lang/RuntimeException", "<init>", "()V"⟩ : MethodName), Cond.declares (⟨"java/lang/RuntimeException", "<init>", "(Ljava/lang/String;)V"⟩ : MethodName), Cond.declares (⟨"java/lang/Exception", "<init>", "()V"⟩ : MethodName), Cond.declares (⟨"java/lang/Exception", "<init>", "(Ljava/lang/String;)V"⟩ : MethodName), Cond.declares (⟨"java/lang/Throwable", "<init>", "()V"⟩ : MethodName), Cond.declares (⟨"java/lang/Throwable", "<init>", "(Ljava/lang/String;)V"⟩ : MethodName), Cond.castable "java/lang/IllegalArgumentException" "java/lang/IllegalArgumentException", Cond.castable "java/lang/IllegalStateException" "java/lang/IllegalStateException", Cond.castable RX6 RX0, Cond.castable RX10 RX0, Cond.castable RX3 RX0, Cond.castable RX9 RX0, Cond.castable RX2 RX0]
/-- what holds of the tables at every state -/
def Kx (D : va_G) (cy : ClassId × ClassId × ClassId × ClassId) (U : State) : Prop := va_K D vwCl (tyl cy) U ∧ ∀ w ∈ NW, va_Nw w U
theorem Kx.same {D : va_G} {cy : ClassId × ClassId × ClassId × ClassId} {u U : State} (h : u.vm = U.vm) (hK : Kx D cy u) : Kx D cy U := by
  refine ⟨va_K.moved (by rw [h]; exact Vm.Alike.refl _) hK.1, fun w hw => ?_⟩
  have h9 := hK.2 w hw
  unfold NW at hw
  simp only [List.mem_cons, List.not_mem_nil, or_false] at hw
  rcases hw with rfl | rfl | rfl | rfl | rfl | rfl | rfl | rfl | rfl | rfl | rfl | rfl | rfl | rfl | rfl | rfl | rfl | rfl | rfl | rfl | rfl | rfl | rfl
  · exact va_Nw.same rfl h h9
  · exact va_Nw.same rfl h h9
  · exact va_Nw.same rfl h h9
  · exact va_AO.moved (by rw [h]; exact Vm.Alike.refl _) h9
  · exact va_AO.moved (by rw [h]; exact Vm.Alike.refl _) h9
  · exact va_Nw.same rfl h h9
  · exact va_Nw.same rfl h h9
  · exact va_Nw.same rfl h h9
  · exact va_Nw.same rfl h h9
  · exact va_Nw.same rfl h h9
  · exact va_Nw.same rfl h h9
  · exact va_Nw.same rfl h h9
  · exact va_Nw.same rfl h h9
  · exact va_Nw.same rfl h h9
  · exact va_Nw.same rfl h h9
  · exact va_Nw.same rfl h h9
  · exact va_Nw.same rfl h h9
  · exact va_Nw.same rfl h h9
  · exact va_Nw.same rfl h h9
  · exact va_Nw.same rfl h h9
  · exact va_Nw.same rfl h h9
  · exact va_Nw.same rfl h h9
  · exact va_Nw.same rfl h h9
theorem Kx.warm {D : va_G} {cy : ClassId × ClassId × ClassId × ClassId} {u U : State} (h : u.WarmedH U.vm) (hK : Kx D cy u) : Kx D cy U := by
  refine ⟨va_K.moved h.alike hK.1, fun w hw => ?_⟩
  have h9 := hK.2 w hw
  unfold NW at hw
  simp only [List.mem_cons, List.not_mem_nil, or_false] at hw
  rcases hw with rfl | rfl | rfl | rfl | rfl | rfl | rfl | rfl | rfl | rfl | rfl | rfl | rfl | rfl | rfl | rfl | rfl | rfl | rfl | rfl | rfl | rfl | rfl
  · exact va_Nw.warmM h h9
  · exact va_Nw.warmM h h9
  · exact va_Nw.warmM h h9
  · exact va_AO.moved h.alike h9
  · exact va_AO.moved h.alike h9
  · exact va_Nw.warmM h h9
  · exact va_Nw.warmD h h9
  · exact va_Nw.warmM h h9
  · exact va_Nw.warmC h h9
  · exact va_Nw.warmC h h9
  · exact va_Nw.warmD h h9
  · exact va_Nw.warmD h h9
  · exact va_Nw.warmD h h9
  · exact va_Nw.warmD h h9
  · exact va_Nw.warmD h h9
  · exact va_Nw.warmD h h9
  · exact va_Nw.warmC h h9
  · exact va_Nw.warmC h h9
  · exact va_Nw.warmC h h9
  · exact va_Nw.warmC h h9
  · exact va_Nw.warmC h h9
  · exact va_Nw.warmC h h9
  · exact va_Nw.warmC h h9
