/-! ===== the machine's rows over this memory ===== -/
def lo (ad : Nat → Nat) (ls : Array Slot) (PL : List (Option (Int ⊕ Option Nat))) : Prop := ls.size = PL.length ∧ lv_wf ls ∧ ∀ (i : Nat) (v : Int ⊕ Option Nat), PL[i]? = some (some v) → ls[i]? = some (.val (vS ad v))
def lof (ad : Nat → Nat) (PL : List (Option (Int ⊕ Option Nat))) : List (Nat × Value) := (List.range PL.length).filterMap (fun i => (PL[i]?.join).map (fun v => (i, vS ad v)))
theorem lof_in {ad : Nat → Nat} {PL : List (Option (Int ⊕ Option Nat))} {i : Nat} {v : Int ⊕ Option Nat} (h : PL[i]? = some (some v)) : (i, vS ad v) ∈ lof ad PL := by
  refine List.mem_filterMap.mpr ⟨i, List.mem_range.mpr (List.getElem?_eq_some_iff.mp h).1, ?_⟩
  rw [h]; rfl
theorem lo_has {ad : Nat → Nat} {ls : Array Slot} {PL : List (Option (Int ⊕ Option Nat))} (h : lo ad ls PL) : lv_has ls PL.length (lof ad PL) := by
  refine ⟨h.1, h.2.1, fun q hq => ?_⟩
  obtain ⟨i, -, hi⟩ := List.mem_filterMap.mp hq
  cases hj : PL[i]? with
  | none => rw [hj] at hi; cases hi
  | some o =>
    cases o with
    | none => rw [hj] at hi; cases hi
    | some v =>
      rw [hj] at hi
      cases hi
      exact h.2.2 i v hj
theorem has_lo {ad : Nat → Nat} {ls' : Array Slot} {PL : List (Option (Int ⊕ Option Nat))} {i : Nat} {v : Int ⊕ Option Nat} (hi : i < PL.length) (h : lv_has ls' PL.length ((i, vS ad v) :: (lof ad PL).filter (fun q => !(q.1 == i) && !(q.1 + 1 == i && q.2.category == 2)))) : lo ad ls' (PL.set i (some v)) := by
  refine ⟨by rw [h.1, List.length_set], h.2.1, fun j w hj => ?_⟩
  rw [List.getElem?_set] at hj
  by_cases e : i = j
  · subst e
    rw [if_pos rfl, if_pos hi] at hj
    cases hj
    exact h.2.2 (i, vS ad v) List.mem_cons_self
  · rw [if_neg e] at hj
    refine h.2.2 (j, vS ad w) (List.mem_cons_of_mem _ (List.mem_filter.mpr ⟨lof_in hj, ?_⟩))
    simp [vS_cat, Ne.symm e]
theorem lg_vs (ad : Nat → Nat) (vs : List (Int ⊕ Option Nat)) : lg_sl (vs.map (vS ad)) = vs.map (fun v => Slot.val (vS ad v)) := by
  induction vs with
  | nil => rfl
  | cons v t ih =>
    have h : lg_sl ((v :: t).map (vS ad)) = [.val (vS ad v)] ++ lg_sl (t.map (vS ad)) := by
      simp [lg_sl, vS_cat]
    rw [h, ih]; rfl
theorem lv_args_in (ad : Nat → Nat) (vs : List (Int ⊕ Option Nat)) (i0 i : Nat) (v : Int ⊕ Option Nat) (h : vs[i]? = some v) : (i0 + i, vS ad v) ∈ lv_args i0 (vs.map (vS ad)) := by
  induction vs generalizing i0 i with
  | nil => simp at h
  | cons w t ih =>
    have e : lv_args i0 ((w :: t).map (vS ad)) = (i0, vS ad w) :: lv_args (i0 + 1) (t.map (vS ad)) := by
      simp [lv_args, vS_cat]
    rw [e]
    cases i with
    | zero => simp at h; subst h; exact List.mem_cons_self
    | succ i =>
      have := ih (i0 + 1) i (by simpa using h)
      rw [show i0 + (i + 1) = i0 + 1 + i by omega]
      exact List.mem_cons_of_mem _ this
theorem lo_entry (ad : Nat → Nat) (vs : List (Int ⊕ Option Nat)) (n : Nat) (h : vs.length ≤ n) : lo ad ((lg_sl (vs.map (vS ad)) ++ List.replicate (n - (lg_sl (vs.map (vS ad))).length) Slot.unset).toArray) (vs.map some ++ List.replicate (n - vs.length) none) := by
  have h1 := lv_entry (vs.map (vS ad)) (n := n) (by rw [lg_vs]; simpa using h)
  refine ⟨by rw [h1.1]; simp; omega, h1.2.1, fun i v hi => ?_⟩
  have hv : vs[i]? = some v := by
    rw [List.getElem?_append] at hi
    split at hi
    · rw [List.getElem?_map] at hi
      cases hq : vs[i]? with
      | none => rw [hq] at hi; cases hi
      | some w => rw [hq] at hi; cases hi; rfl
    · rw [List.getElem?_replicate] at hi
      split at hi <;> cases hi
  have h2 := lv_args_in ad vs 0 i v hv
  rw [Nat.zero_add] at h2
  exact h1.2.2 _ h2
def Cx (p : Program) (s : State) (m : MethodId) (args : Array Value) (meth : Method) (c : Code) (cc : ByteArray) (own : String) (D : va_G) (cy : ClassId × ClassId × ClassId × ClassId) (A : Nat → Prop) : Prop :=
  p.tables.exec = Jvm.exec ∧ c.code = cc ∧ s.vm.findClass own = some m.cls ∧ (∀ w ∈ UW, w.before args s = true) ∧ Kx D cy s ∧ (∀ q, s.heap.size ≤ q → A q) ∧ meth.locks = false
section GX
variable {p : Program} {l : Launch} {e : Env} {R : Room} {s : State} {m : MethodId} {args : Array Value} {below : List Frame} {meth : Method} {c : Code} {H : Heap} {locs : List Loc} {cells slots : Nat} {Q : State → Prop} {cc : ByteArray} {pc : Nat} {ls : Array Slot} {rest : List Value} {D : va_G} {cy : ClassId × ClassId × ClassId × ClassId} {A : Nat → Prop} {ad : Nat → Nat} {V : Vt} {S : Me} {own : String} {PL : List (Option (Int ⊕ Option Nat))}
theorem gx_iconst (C : Cx p s m args meth c cc own D cy A) {n : Int} (hdg : decode cc pc = .ok (.iconst n, 1)) (k : W p l e R s m args below meth c H locs cells slots Q (F0 m (pc + 1) ls (vI n :: rest))) : W p l e R s m args below meth c H locs cells slots Q (F0 m pc ls rest) := lv_iconst C.1 C.2.1 hdg rfl k
theorem gx_bipush (C : Cx p s m args meth c cc own D cy A) {n : Int} (hdg : decode cc pc = .ok (.bipush n, 2)) (hv : (Int8.ofInt n).toInt32 = Int32.ofInt n) (k : W p l e R s m args below meth c H locs cells slots Q (F0 m (pc + 2) ls (vI n :: rest))) : W p l e R s m args below meth c H locs cells slots Q (F0 m pc ls rest) := lv_bipush C.1 C.2.1 hdg hv k
theorem gx_sipush (C : Cx p s m args meth c cc own D cy A) {n : Int} (hdg : decode cc pc = .ok (.sipush n, 3)) (hv : (Int16.ofInt n).toInt32 = Int32.ofInt n) (k : W p l e R s m args below meth c H locs cells slots Q (F0 m (pc + 3) ls (vI n :: rest))) : W p l e R s m args below meth c H locs cells slots Q (F0 m pc ls rest) := lv_sipush C.1 C.2.1 hdg hv k
theorem gx_ldc (C : Cx p s m args meth c cc own D cy A) {n : Int} {index : Nat} (hw : Cond.constant own index (Int32.ofInt n) ∈ UW) (hdg : decode cc pc = .ok (.ldc index, 2)) (k : W p l e R s m args below meth c H locs cells slots Q (F0 m (pc + 2) ls (vI n :: rest))) : W p l e R s m args below meth c H locs cells slots Q (F0 m pc ls rest) := lv_ldc C.1 C.2.1 C.2.2.1 (C.2.2.2.1 _ hw) hdg k
theorem gx_null (C : Cx p s m args meth c cc own D cy A) (hdg : decode cc pc = .ok (.aconst_null, 1)) (k : W p l e R s m args below meth c H locs cells slots Q (F0 m (pc + 1) ls (vR ad none :: rest))) : W p l e R s m args below meth c H locs cells slots Q (F0 m pc ls rest) := lv_null C.1 C.2.1 hdg k
theorem gx_iload_n (C : Cx p s m args meth c cc own D cy A) {k : Fin 4} {x : Int} (hl : lo ad ls PL) (hdg : decode cc pc = .ok (.iload_n k, 1)) (h : PL[(k : Nat)]? = some (some (.inl x))) (kk : W p l e R s m args below meth c H locs cells slots Q (F0 m (pc + 1) ls (vI x :: rest))) : W p l e R s m args below meth c H locs cells slots Q (F0 m pc ls rest) := lv_iload_n C.1 C.2.1 hdg rfl (hl.2.2 _ _ h) kk
theorem gx_iload (C : Cx p s m args meth c cc own D cy A) {k : Nat} {x : Int} (hl : lo ad ls PL) (hdg : decode cc pc = .ok (.iload k, 2)) (h : PL[k]? = some (some (.inl x))) (kk : W p l e R s m args below meth c H locs cells slots Q (F0 m (pc + 2) ls (vI x :: rest))) : W p l e R s m args below meth c H locs cells slots Q (F0 m pc ls rest) := lv_iload C.1 C.2.1 hdg (hl.2.2 _ _ h) kk
theorem gx_aload_n (C : Cx p s m args meth c cc own D cy A) {k : Fin 4} {x : Option Nat} (hl : lo ad ls PL) (hdg : decode cc pc = .ok (.aload_n k, 1)) (h : PL[(k : Nat)]? = some (some (.inr x))) (kk : W p l e R s m args below meth c H locs cells slots Q (F0 m (pc + 1) ls (vR ad x :: rest))) : W p l e R s m args below meth c H locs cells slots Q (F0 m pc ls rest) := by
  cases x with
  | none => exact lv_aload_nN C.1 C.2.1 hdg rfl (hl.2.2 _ _ h) kk
  | some z => exact lv_aload_n C.1 C.2.1 hdg rfl (hl.2.2 _ _ h) kk
theorem gx_aload (C : Cx p s m args meth c cc own D cy A) {k : Nat} {x : Option Nat} (hl : lo ad ls PL) (hdg : decode cc pc = .ok (.aload k, 2)) (h : PL[k]? = some (some (.inr x))) (kk : W p l e R s m args below meth c H locs cells slots Q (F0 m (pc + 2) ls (vR ad x :: rest))) : W p l e R s m args below meth c H locs cells slots Q (F0 m pc ls rest) := by
  cases x with
  | none => exact lv_aloadN C.1 C.2.1 hdg (hl.2.2 _ _ h) kk
  | some z => exact lv_aload C.1 C.2.1 hdg (hl.2.2 _ _ h) kk
theorem gx_istore_n (C : Cx p s m args meth c cc own D cy A) {k : Fin 4} {x : Int} {PL' : List (Option (Int ⊕ Option Nat))} (hl : lo ad ls PL) (hdg : decode cc pc = .ok (.istore_n k, 1)) (hi : (k : Nat) < PL.length) (h : PL.set k (some (.inl x)) = PL') (kk : ∀ ls', lo ad ls' PL' → W p l e R s m args below meth c H locs cells slots Q (F0 m (pc + 1) ls' rest)) : W p l e R s m args below meth c H locs cells slots Q (F0 m pc ls (vI x :: rest)) := by
  subst h
  exact lv_istore_n C.1 C.2.1 hdg rfl (lo_has hl) hi rfl (fun ls' h' => kk ls' (has_lo (v := .inl x) hi h'))
theorem gx_istore (C : Cx p s m args meth c cc own D cy A) {k : Nat} {x : Int} {PL' : List (Option (Int ⊕ Option Nat))} (hl : lo ad ls PL) (hdg : decode cc pc = .ok (.istore k, 2)) (hi : k < PL.length) (h : PL.set k (some (.inl x)) = PL') (kk : ∀ ls', lo ad ls' PL' → W p l e R s m args below meth c H locs cells slots Q (F0 m (pc + 2) ls' rest)) : W p l e R s m args below meth c H locs cells slots Q (F0 m pc ls (vI x :: rest)) := by
  subst h
  exact lv_istore C.1 C.2.1 hdg (lo_has hl) hi rfl (fun ls' h' => kk ls' (has_lo (v := .inl x) hi h'))
theorem gx_astore_n (C : Cx p s m args meth c cc own D cy A) {k : Fin 4} {x : Option Nat} {PL' : List (Option (Int ⊕ Option Nat))} (hl : lo ad ls PL) (hdg : decode cc pc = .ok (.astore_n k, 1)) (hi : (k : Nat) < PL.length) (h : PL.set k (some (.inr x)) = PL') (kk : ∀ ls', lo ad ls' PL' → W p l e R s m args below meth c H locs cells slots Q (F0 m (pc + 1) ls' rest)) : W p l e R s m args below meth c H locs cells slots Q (F0 m pc ls (vR ad x :: rest)) := by
  subst h
  cases x with
  | none => exact lv_astore_nN C.1 C.2.1 hdg rfl (lo_has hl) hi rfl (fun ls' h' => kk ls' (has_lo (v := .inr none) hi h'))
  | some z => exact lv_astore_n C.1 C.2.1 hdg rfl (lo_has hl) hi rfl (fun ls' h' => kk ls' (has_lo (v := .inr (some z)) hi h'))
theorem gx_astore (C : Cx p s m args meth c cc own D cy A) {k : Nat} {x : Option Nat} {PL' : List (Option (Int ⊕ Option Nat))} (hl : lo ad ls PL) (hdg : decode cc pc = .ok (.astore k, 2)) (hi : k < PL.length) (h : PL.set k (some (.inr x)) = PL') (kk : ∀ ls', lo ad ls' PL' → W p l e R s m args below meth c H locs cells slots Q (F0 m (pc + 2) ls' rest)) : W p l e R s m args below meth c H locs cells slots Q (F0 m pc ls (vR ad x :: rest)) := by
  subst h
  cases x with
  | none => exact lv_astoreN C.1 C.2.1 hdg (lo_has hl) hi rfl (fun ls' h' => kk ls' (has_lo (v := .inr none) hi h'))
  | some z => exact lv_astore C.1 C.2.1 hdg (lo_has hl) hi rfl (fun ls' h' => kk ls' (has_lo (v := .inr (some z)) hi h'))
theorem gx_iinc (C : Cx p s m args meth c cc own D cy A) {k : Nat} {n x : Int} {PL' : List (Option (Int ⊕ Option Nat))} (hl : lo ad ls PL) (hdg : decode cc pc = .ok (.iinc k n, 3)) (hx : PL[k]? = some (some (.inl x))) (h : PL.set k (some (.inl (x + n))) = PL') (kk : ∀ ls', lo ad ls' PL' → W p l e R s m args below meth c H locs cells slots Q (F0 m (pc + 3) ls' rest)) : W p l e R s m args below meth c H locs cells slots Q (F0 m pc ls rest) := by
  subst h
  have hi : k < PL.length := (List.getElem?_eq_some_iff.mp hx).1
  obtain ⟨k9, hk9⟩ := List.getElem?_of_mem (lof_in (ad := ad) hx)
  exact lv_iinc C.1 C.2.1 hdg (lo_has hl) (k := k9) hk9 (Int32.ofInt_add x n).symm hi rfl (fun ls' h' => kk ls' (has_lo (v := .inl (x + n)) hi h'))
theorem gx_dupI (C : Cx p s m args meth c cc own D cy A) {x : Int} (hdg : decode cc pc = .ok (.dup, 1)) (k : W p l e R s m args below meth c H locs cells slots Q (F0 m (pc + 1) ls (vI x :: vI x :: rest))) : W p l e R s m args below meth c H locs cells slots Q (F0 m pc ls (vI x :: rest)) := lv_dup C.1 C.2.1 hdg rfl k
theorem gx_dupR (C : Cx p s m args meth c cc own D cy A) {x : Option Nat} (hdg : decode cc pc = .ok (.dup, 1)) (k : W p l e R s m args below meth c H locs cells slots Q (F0 m (pc + 1) ls (vR ad x :: vR ad x :: rest))) : W p l e R s m args below meth c H locs cells slots Q (F0 m pc ls (vR ad x :: rest)) := lv_dup C.1 C.2.1 hdg (vS_cat ad (.inr x)) k
theorem gx_popI (C : Cx p s m args meth c cc own D cy A) {x : Int} (hdg : decode cc pc = .ok (.pop, 1)) (k : W p l e R s m args below meth c H locs cells slots Q (F0 m (pc + 1) ls rest)) : W p l e R s m args below meth c H locs cells slots Q (F0 m pc ls (vI x :: rest)) := lv_pop C.1 C.2.1 hdg rfl k
theorem gx_iadd (C : Cx p s m args meth c cc own D cy A) {x y : Int} (hdg : decode cc pc = .ok (.iadd, 1)) (k : W p l e R s m args below meth c H locs cells slots Q (F0 m (pc + 1) ls (vI (x + y) :: rest))) : W p l e R s m args below meth c H locs cells slots Q (F0 m pc ls (vI y :: vI x :: rest)) := by
  unfold vI at k ⊢
  rw [Int32.ofInt_add] at k
  exact lv_iadd C.1 C.2.1 hdg k
theorem gx_isub (C : Cx p s m args meth c cc own D cy A) {x y : Int} (hdg : decode cc pc = .ok (.isub, 1)) (k : W p l e R s m args below meth c H locs cells slots Q (F0 m (pc + 1) ls (vI (x - y) :: rest))) : W p l e R s m args below meth c H locs cells slots Q (F0 m pc ls (vI y :: vI x :: rest)) := by
  unfold vI at k ⊢
  rw [Int32.ofInt_sub] at k
  exact lv_isub C.1 C.2.1 hdg k
theorem gx_imul (C : Cx p s m args meth c cc own D cy A) {x y : Int} (hdg : decode cc pc = .ok (.imul, 1)) (k : W p l e R s m args below meth c H locs cells slots Q (F0 m (pc + 1) ls (vI (x * y) :: rest))) : W p l e R s m args below meth c H locs cells slots Q (F0 m pc ls (vI y :: vI x :: rest)) := by
  unfold vI at k ⊢
  rw [Int32.ofInt_mul] at k
  exact lv_imul C.1 C.2.1 hdg k
theorem gx_idiv (C : Cx p s m args meth c cc own D cy A) {x y : Int} (rx : rng x) (ry : rng y) (h0 : y ≠ 0) (hdg : decode cc pc = .ok (.idiv, 1)) (k : W p l e R s m args below meth c H locs cells slots Q (F0 m (pc + 1) ls (vI (x.tdiv y) :: rest))) : W p l e R s m args below meth c H locs cells slots Q (F0 m pc ls (vI y :: vI x :: rest)) := by
  unfold vI at k ⊢
  rw [rg_idiv rx ry] at k
  exact lv_idiv C.1 C.2.1 hdg (fun q => h0 ((rg_eq ry (y := 0) (by decide)).mp q)) k
theorem gx_irem (C : Cx p s m args meth c cc own D cy A) {x y : Int} (rx : rng x) (ry : rng y) (h0 : y ≠ 0) (hdg : decode cc pc = .ok (.irem, 1)) (k : W p l e R s m args below meth c H locs cells slots Q (F0 m (pc + 1) ls (vI (x.tmod y) :: rest))) : W p l e R s m args below meth c H locs cells slots Q (F0 m pc ls (vI y :: vI x :: rest)) := by
  unfold vI at k ⊢
  rw [rg_irem rx ry] at k
  exact lv_irem C.1 C.2.1 hdg (fun q => h0 ((rg_eq ry (y := 0) (by decide)).mp q)) k
theorem gx_iand (C : Cx p s m args meth c cc own D cy A) {x y : Int} (hdg : decode cc pc = .ok (.iand, 1)) (k : W p l e R s m args below meth c H locs cells slots Q (F0 m (pc + 1) ls (vI (bAnd x y) :: rest))) : W p l e R s m args below meth c H locs cells slots Q (F0 m pc ls (vI y :: vI x :: rest)) := by
  unfold vI bAnd at *
  rw [Int32.ofInt_toInt] at k
  exact lv_iand C.1 C.2.1 hdg k
theorem gx_ior (C : Cx p s m args meth c cc own D cy A) {x y : Int} (hdg : decode cc pc = .ok (.ior, 1)) (k : W p l e R s m args below meth c H locs cells slots Q (F0 m (pc + 1) ls (vI (bOr x y) :: rest))) : W p l e R s m args below meth c H locs cells slots Q (F0 m pc ls (vI y :: vI x :: rest)) := by
  unfold vI bOr at *
  rw [Int32.ofInt_toInt] at k
  exact lv_ior C.1 C.2.1 hdg k
theorem gx_ixor (C : Cx p s m args meth c cc own D cy A) {x y : Int} (hdg : decode cc pc = .ok (.ixor, 1)) (k : W p l e R s m args below meth c H locs cells slots Q (F0 m (pc + 1) ls (vI (bXor x y) :: rest))) : W p l e R s m args below meth c H locs cells slots Q (F0 m pc ls (vI y :: vI x :: rest)) := by
  unfold vI bXor at *
  rw [Int32.ofInt_toInt] at k
  exact lv_ixor C.1 C.2.1 hdg k
theorem gx_ishl (C : Cx p s m args meth c cc own D cy A) {x y : Int} (hdg : decode cc pc = .ok (.ishl, 1)) (k : W p l e R s m args below meth c H locs cells slots Q (F0 m (pc + 1) ls (vI (bShl x y) :: rest))) : W p l e R s m args below meth c H locs cells slots Q (F0 m pc ls (vI y :: vI x :: rest)) := by
  unfold vI bShl at *
  rw [Int32.ofInt_toInt] at k
  exact lv_ishl C.1 C.2.1 hdg k
theorem gx_ishr (C : Cx p s m args meth c cc own D cy A) {x y : Int} (hdg : decode cc pc = .ok (.ishr, 1)) (k : W p l e R s m args below meth c H locs cells slots Q (F0 m (pc + 1) ls (vI (bShr x y) :: rest))) : W p l e R s m args below meth c H locs cells slots Q (F0 m pc ls (vI y :: vI x :: rest)) := by
  unfold vI bShr at *
  rw [Int32.ofInt_toInt] at k
  exact lv_ishr C.1 C.2.1 hdg k
theorem gx_i2l (C : Cx p s m args meth c cc own D cy A) {x : Int} (rx : rng x) (hdg : decode cc pc = .ok (.i2l, 1)) (k : W p l e R s m args below meth c H locs cells slots Q (F0 m (pc + 1) ls (vL x :: rest))) : W p l e R s m args below meth c H locs cells slots Q (F0 m pc ls (vI x :: rest)) := by
  have h : Int32.minValue.toInt = -2147483648 := by decide
  have h' : Int32.maxValue.toInt = 2147483647 := by decide
  exact lv_i2l C.1 C.2.1 hdg (Int32.toInt64_ofInt (by omega) (by omega)) k
theorem gx_lconst (C : Cx p s m args meth c cc own D cy A) {n : Fin 2} {x : Int} (hx : Int64.ofNat (n : Nat) = Int64.ofInt x) (hdg : decode cc pc = .ok (.lconst n, 1)) (k : W p l e R s m args below meth c H locs cells slots Q (F0 m (pc + 1) ls (vL x :: rest))) : W p l e R s m args below meth c H locs cells slots Q (F0 m pc ls rest) := lv_lconst C.1 C.2.1 hdg hx k
theorem gx_ldc2 (C : Cx p s m args meth c cc own D cy A) {n : Int} {index : Nat} (hw : Cond.constantLong own index (Int64.ofInt n) ∈ UW) (hdg : decode cc pc = .ok (.ldc2_w index, 3)) (k : W p l e R s m args below meth c H locs cells slots Q (F0 m (pc + 3) ls (vL n :: rest))) : W p l e R s m args below meth c H locs cells slots Q (F0 m pc ls rest) := lv_ldc2 C.1 C.2.1 C.2.2.1 (C.2.2.2.1 _ hw) hdg k
theorem gx_goto (C : Cx p s m args meth c cc own D cy A) {off : Int} {tgt : Nat} (hdg : decode cc pc = .ok (.goto off, 3)) (ht : (pc : Int) + off = (tgt : Int)) (k : W p l e R s m args below meth c H locs cells slots Q (F0 m tgt ls rest)) : W p l e R s m args below meth c H locs cells slots Q (F0 m pc ls rest) := lv_goto C.1 C.2.1 hdg ht k
theorem gx_icmp_eq (C : Cx p s m args meth c cc own D cy A) {x y : Int} (rx : rng x) (ry : rng y) {off : Int} {tgt : Nat} (hdg : decode cc pc = .ok (.if_icmp .eq off, 3)) (ht : (pc : Int) + off = (tgt : Int)) (kt : x = y → W p l e R s m args below meth c H locs cells slots Q (F0 m tgt ls rest)) (kf : ¬ x = y → W p l e R s m args below meth c H locs cells slots Q (F0 m (pc + 3) ls rest)) : W p l e R s m args below meth c H locs cells slots Q (F0 m pc ls (vI y :: vI x :: rest)) :=
  lv_icmp_eq C.1 C.2.1 hdg ht (fun h => kt ((rg_eq rx ry).mp h)) (fun h => kf (fun h2 => h ((rg_eq rx ry).mpr h2)))
theorem gx_if_eq (C : Cx p s m args meth c cc own D cy A) {x : Int} (rx : rng x) {off : Int} {tgt : Nat} (hdg : decode cc pc = .ok (.ifCond .eq off, 3)) (ht : (pc : Int) + off = (tgt : Int)) (kt : x = 0 → W p l e R s m args below meth c H locs cells slots Q (F0 m tgt ls rest)) (kf : ¬ x = 0 → W p l e R s m args below meth c H locs cells slots Q (F0 m (pc + 3) ls rest)) : W p l e R s m args below meth c H locs cells slots Q (F0 m pc ls (vI x :: rest)) :=
  lv_if_eq C.1 C.2.1 hdg ht (fun h => kt ((rg_eq rx (show rng 0 by decide)).mp h)) (fun h => kf (fun h2 => h ((rg_eq rx (show rng 0 by decide)).mpr h2)))
theorem gx_icmp_ne (C : Cx p s m args meth c cc own D cy A) {x y : Int} (rx : rng x) (ry : rng y) {off : Int} {tgt : Nat} (hdg : decode cc pc = .ok (.if_icmp .ne off, 3)) (ht : (pc : Int) + off = (tgt : Int)) (kt : ¬ x = y → W p l e R s m args below meth c H locs cells slots Q (F0 m tgt ls rest)) (kf : x = y → W p l e R s m args below meth c H locs cells slots Q (F0 m (pc + 3) ls rest)) : W p l e R s m args below meth c H locs cells slots Q (F0 m pc ls (vI y :: vI x :: rest)) :=
  lv_icmp_ne C.1 C.2.1 hdg ht (fun h => kt (fun h2 => h ((rg_eq rx ry).mpr h2))) (fun h => kf ((rg_eq rx ry).mp h))
theorem gx_if_ne (C : Cx p s m args meth c cc own D cy A) {x : Int} (rx : rng x) {off : Int} {tgt : Nat} (hdg : decode cc pc = .ok (.ifCond .ne off, 3)) (ht : (pc : Int) + off = (tgt : Int)) (kt : ¬ x = 0 → W p l e R s m args below meth c H locs cells slots Q (F0 m tgt ls rest)) (kf : x = 0 → W p l e R s m args below meth c H locs cells slots Q (F0 m (pc + 3) ls rest)) : W p l e R s m args below meth c H locs cells slots Q (F0 m pc ls (vI x :: rest)) :=
  lv_if_ne C.1 C.2.1 hdg ht (fun h => kt (fun h2 => h ((rg_eq rx (show rng 0 by decide)).mpr h2))) (fun h => kf ((rg_eq rx (show rng 0 by decide)).mp h))
theorem gx_icmp_lt (C : Cx p s m args meth c cc own D cy A) {x y : Int} (rx : rng x) (ry : rng y) {off : Int} {tgt : Nat} (hdg : decode cc pc = .ok (.if_icmp .lt off, 3)) (ht : (pc : Int) + off = (tgt : Int)) (kt : x < y → W p l e R s m args below meth c H locs cells slots Q (F0 m tgt ls rest)) (kf : ¬ x < y → W p l e R s m args below meth c H locs cells slots Q (F0 m (pc + 3) ls rest)) : W p l e R s m args below meth c H locs cells slots Q (F0 m pc ls (vI y :: vI x :: rest)) :=
  lv_icmp_lt C.1 C.2.1 hdg ht (fun h => kt ((rg_lt rx ry).mp h)) (fun h => kf (fun h2 => h ((rg_lt rx ry).mpr h2)))
theorem gx_if_lt (C : Cx p s m args meth c cc own D cy A) {x : Int} (rx : rng x) {off : Int} {tgt : Nat} (hdg : decode cc pc = .ok (.ifCond .lt off, 3)) (ht : (pc : Int) + off = (tgt : Int)) (kt : x < 0 → W p l e R s m args below meth c H locs cells slots Q (F0 m tgt ls rest)) (kf : ¬ x < 0 → W p l e R s m args below meth c H locs cells slots Q (F0 m (pc + 3) ls rest)) : W p l e R s m args below meth c H locs cells slots Q (F0 m pc ls (vI x :: rest)) :=
  lv_if_lt C.1 C.2.1 hdg ht (fun h => kt ((rg_lt rx (show rng 0 by decide)).mp h)) (fun h => kf (fun h2 => h ((rg_lt rx (show rng 0 by decide)).mpr h2)))
theorem gx_icmp_ge (C : Cx p s m args meth c cc own D cy A) {x y : Int} (rx : rng x) (ry : rng y) {off : Int} {tgt : Nat} (hdg : decode cc pc = .ok (.if_icmp .ge off, 3)) (ht : (pc : Int) + off = (tgt : Int)) (kt : y ≤ x → W p l e R s m args below meth c H locs cells slots Q (F0 m tgt ls rest)) (kf : ¬ y ≤ x → W p l e R s m args below meth c H locs cells slots Q (F0 m (pc + 3) ls rest)) : W p l e R s m args below meth c H locs cells slots Q (F0 m pc ls (vI y :: vI x :: rest)) :=
  lv_icmp_ge C.1 C.2.1 hdg ht (fun h => kt ((rg_le ry rx).mp h)) (fun h => kf (fun h2 => h ((rg_le ry rx).mpr h2)))
theorem gx_if_ge (C : Cx p s m args meth c cc own D cy A) {x : Int} (rx : rng x) {off : Int} {tgt : Nat} (hdg : decode cc pc = .ok (.ifCond .ge off, 3)) (ht : (pc : Int) + off = (tgt : Int)) (kt : 0 ≤ x → W p l e R s m args below meth c H locs cells slots Q (F0 m tgt ls rest)) (kf : ¬ 0 ≤ x → W p l e R s m args below meth c H locs cells slots Q (F0 m (pc + 3) ls rest)) : W p l e R s m args below meth c H locs cells slots Q (F0 m pc ls (vI x :: rest)) :=
  lv_if_ge C.1 C.2.1 hdg ht (fun h => kt ((rg_le (show rng 0 by decide) rx).mp h)) (fun h => kf (fun h2 => h ((rg_le (show rng 0 by decide) rx).mpr h2)))
theorem gx_icmp_gt (C : Cx p s m args meth c cc own D cy A) {x y : Int} (rx : rng x) (ry : rng y) {off : Int} {tgt : Nat} (hdg : decode cc pc = .ok (.if_icmp .gt off, 3)) (ht : (pc : Int) + off = (tgt : Int)) (kt : y < x → W p l e R s m args below meth c H locs cells slots Q (F0 m tgt ls rest)) (kf : ¬ y < x → W p l e R s m args below meth c H locs cells slots Q (F0 m (pc + 3) ls rest)) : W p l e R s m args below meth c H locs cells slots Q (F0 m pc ls (vI y :: vI x :: rest)) :=
  lv_icmp_gt C.1 C.2.1 hdg ht (fun h => kt ((rg_lt ry rx).mp h)) (fun h => kf (fun h2 => h ((rg_lt ry rx).mpr h2)))
theorem gx_if_gt (C : Cx p s m args meth c cc own D cy A) {x : Int} (rx : rng x) {off : Int} {tgt : Nat} (hdg : decode cc pc = .ok (.ifCond .gt off, 3)) (ht : (pc : Int) + off = (tgt : Int)) (kt : 0 < x → W p l e R s m args below meth c H locs cells slots Q (F0 m tgt ls rest)) (kf : ¬ 0 < x → W p l e R s m args below meth c H locs cells slots Q (F0 m (pc + 3) ls rest)) : W p l e R s m args below meth c H locs cells slots Q (F0 m pc ls (vI x :: rest)) :=
  lv_if_gt C.1 C.2.1 hdg ht (fun h => kt ((rg_lt (show rng 0 by decide) rx).mp h)) (fun h => kf (fun h2 => h ((rg_lt (show rng 0 by decide) rx).mpr h2)))
theorem gx_icmp_le (C : Cx p s m args meth c cc own D cy A) {x y : Int} (rx : rng x) (ry : rng y) {off : Int} {tgt : Nat} (hdg : decode cc pc = .ok (.if_icmp .le off, 3)) (ht : (pc : Int) + off = (tgt : Int)) (kt : x ≤ y → W p l e R s m args below meth c H locs cells slots Q (F0 m tgt ls rest)) (kf : ¬ x ≤ y → W p l e R s m args below meth c H locs cells slots Q (F0 m (pc + 3) ls rest)) : W p l e R s m args below meth c H locs cells slots Q (F0 m pc ls (vI y :: vI x :: rest)) :=
  lv_icmp_le C.1 C.2.1 hdg ht (fun h => kt ((rg_le rx ry).mp h)) (fun h => kf (fun h2 => h ((rg_le rx ry).mpr h2)))
theorem gx_if_le (C : Cx p s m args meth c cc own D cy A) {x : Int} (rx : rng x) {off : Int} {tgt : Nat} (hdg : decode cc pc = .ok (.ifCond .le off, 3)) (ht : (pc : Int) + off = (tgt : Int)) (kt : x ≤ 0 → W p l e R s m args below meth c H locs cells slots Q (F0 m tgt ls rest)) (kf : ¬ x ≤ 0 → W p l e R s m args below meth c H locs cells slots Q (F0 m (pc + 3) ls rest)) : W p l e R s m args below meth c H locs cells slots Q (F0 m pc ls (vI x :: rest)) :=
  lv_if_le C.1 C.2.1 hdg ht (fun h => kt ((rg_le rx (show rng 0 by decide)).mp h)) (fun h => kf (fun h2 => h ((rg_le rx (show rng 0 by decide)).mpr h2)))
theorem gx_ifnull (C : Cx p s m args meth c cc own D cy A) {r : Option Nat} {off : Int} {tgt : Nat} (hdg : decode cc pc = .ok (.ifnull off, 3)) (ht : (pc : Int) + off = (tgt : Int)) (kt : r = none → W p l e R s m args below meth c H locs cells slots Q (F0 m tgt ls rest)) (kf : ¬ r = none → W p l e R s m args below meth c H locs cells slots Q (F0 m (pc + 3) ls rest)) : W p l e R s m args below meth c H locs cells slots Q (F0 m pc ls (vR ad r :: rest)) := by
  cases r with
  | none => exact lv_ifnullN C.1 C.2.1 hdg ht (kt rfl)
  | some z => exact lv_ifnull C.1 C.2.1 hdg (kf (by intro h; cases h))
theorem gx_ifnonnull (C : Cx p s m args meth c cc own D cy A) {r : Option Nat} {off : Int} {tgt : Nat} (hdg : decode cc pc = .ok (.ifnonnull off, 3)) (ht : (pc : Int) + off = (tgt : Int)) (kt : ¬ r = none → W p l e R s m args below meth c H locs cells slots Q (F0 m tgt ls rest)) (kf : r = none → W p l e R s m args below meth c H locs cells slots Q (F0 m (pc + 3) ls rest)) : W p l e R s m args below meth c H locs cells slots Q (F0 m pc ls (vR ad r :: rest)) := by
  cases r with
  | none => exact lv_ifnonnullN C.1 C.2.1 hdg (kf rfl)
  | some z => exact lv_ifnonnull C.1 C.2.1 hdg ht (kt (by intro h; cases h))
theorem ad_eq {r r' : Option Nat} (hi : ∀ i j, i < V.1 → j < V.1 → ad i = ad j → i = j) (hr : ∀ z, r = some z → z < V.1) (hr' : ∀ z, r' = some z → z < V.1) : r.map ad = r'.map ad ↔ r = r' := by
  refine ⟨fun h => ?_, fun h => by rw [h]⟩
  cases r with
  | none => cases r' with
    | none => rfl
    | some z => cases h
  | some z => cases r' with
    | none => cases h
    | some z' => rw [hi z z' (hr _ rfl) (hr' _ rfl) (Option.some.inj h)]
theorem gx_acmp_eq (C : Cx p s m args meth c cc own D cy A) (G : Gy D cy A s.heap ad V S H locs) {rx ry : Option Nat} (hrx : ∀ z, rx = some z → z < V.1) (hry : ∀ z, ry = some z → z < V.1) {off : Int} {tgt : Nat} (hdg : decode cc pc = .ok (.if_acmp .eq off, 3)) (ht : (pc : Int) + off = (tgt : Int)) (kt : rx = ry → W p l e R s m args below meth c H locs cells slots Q (F0 m tgt ls rest)) (kf : ¬ rx = ry → W p l e R s m args below meth c H locs cells slots Q (F0 m (pc + 3) ls rest)) : W p l e R s m args below meth c H locs cells slots Q (F0 m pc ls (vR ad ry :: vR ad rx :: rest)) :=
  lv_acmp_eq C.1 C.2.1 hdg ht (fun h => kt ((ad_eq G.1.2.1 hrx hry).mp h)) (fun h => kf (fun h2 => h ((ad_eq G.1.2.1 hrx hry).mpr h2)))
theorem gx_acmp_ne (C : Cx p s m args meth c cc own D cy A) (G : Gy D cy A s.heap ad V S H locs) {rx ry : Option Nat} (hrx : ∀ z, rx = some z → z < V.1) (hry : ∀ z, ry = some z → z < V.1) {off : Int} {tgt : Nat} (hdg : decode cc pc = .ok (.if_acmp .ne off, 3)) (ht : (pc : Int) + off = (tgt : Int)) (kt : ¬ rx = ry → W p l e R s m args below meth c H locs cells slots Q (F0 m tgt ls rest)) (kf : rx = ry → W p l e R s m args below meth c H locs cells slots Q (F0 m (pc + 3) ls rest)) : W p l e R s m args below meth c H locs cells slots Q (F0 m pc ls (vR ad ry :: vR ad rx :: rest)) :=
  lv_acmp_ne C.1 C.2.1 hdg ht (fun h => kt (fun h2 => h ((ad_eq G.1.2.1 hrx hry).mpr h2))) (fun h => kf ((ad_eq G.1.2.1 hrx hry).mp h))
theorem gx_tableIn (C : Cx p s m args meth c cc own D cy A) {dflt lo hi : Int} {offs : Array Int} {len : Nat} {x : Int} (rx : rng x) {off : Int} {tgt : Nat} (hdg : decode cc pc = .ok (.tableswitch dflt lo hi offs, len)) (n : Int) (hx : x = n) (h1 : lo ≤ n) (h2 : n ≤ hi) (ho : offs[(n - lo).toNat]? = some off) (ht : (pc : Int) + off = (tgt : Int)) (k : W p l e R s m args below meth c H locs cells slots Q (F0 m tgt ls rest)) : W p l e R s m args below meth c H locs cells slots Q (F0 m pc ls (vI x :: rest)) := by
  subst hx
  exact lv_tableIn C.1 C.2.1 hdg (by rw [rg_t rx]; omega) (by rw [rg_t rx]; omega) (by rw [rg_t rx]; exact ho) ht k
theorem gx_tableOut (C : Cx p s m args meth c cc own D cy A) {dflt lo hi : Int} {offs : Array Int} {len : Nat} {x : Int} (rx : rng x) {tgt : Nat} (hdg : decode cc pc = .ok (.tableswitch dflt lo hi offs, len)) (h : x < lo ∨ hi < x) (ht : (pc : Int) + dflt = (tgt : Int)) (k : W p l e R s m args below meth c H locs cells slots Q (F0 m tgt ls rest)) : W p l e R s m args below meth c H locs cells slots Q (F0 m pc ls (vI x :: rest)) :=
  lv_tableOut C.1 C.2.1 hdg (by rw [rg_t rx]; exact h) ht k
theorem gx_lookup (C : Cx p s m args meth c cc own D cy A) {dflt : Int} {ps : Array (Int × Int)} {len : Nat} {x : Int} (rx : rng x) {off : Int} {tgt : Nat} (hdg : decode cc pc = .ok (.lookupswitch dflt ps, len)) (hp : (ps.toList.zip (ps.toList.drop 1)).all (fun (a, next) => a.1 < next.1) = true) (ho : Op.lookupswitch.offset ps.toList dflt x = off) (ht : (pc : Int) + off = (tgt : Int)) (k : W p l e R s m args below meth c H locs cells slots Q (F0 m tgt ls rest)) : W p l e R s m args below meth c H locs cells slots Q (F0 m pc ls (vI x :: rest)) :=
  lv_lookup C.1 C.2.1 hdg hp (by rw [rg_t rx]; exact ho) ht k
end GX
