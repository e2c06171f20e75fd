/-! ===== THE LAW: rows that keep the script in local 0 ===== -/
def l0 (ad : Nat → Nat) (b : Nat) (ls : Array Slot) (PL : List (Option (Int ⊕ Option Nat))) : Prop := lo ad ls PL ∧ ls[0]? = some (.val (.ref b))
/-- the locals at the head of the loop -/
def lH (i : Int) : List (Option (Int ⊕ Option Nat)) := [none, some (.inr (some 0)), some (.inr (some 42)), some (.inr (some 72)), some (.inl i), none, none, none]
theorem l0_has {ad : Nat → Nat} {b : Nat} {ls : Array Slot} {PL : List (Option (Int ⊕ Option Nat))} (h : l0 ad b ls PL) : lv_has ls PL.length ((0, Value.ref b) :: lof ad PL) := by
  have w := lo_has h.1
  refine ⟨w.1, w.2.1, fun q hq => ?_⟩
  rcases List.mem_cons.mp hq with rfl | hq
  · exact h.2
  · exact w.2.2 q hq
theorem has_l0 {ad : Nat → Nat} {b : Nat} {ls' : Array Slot} {PL : List (Option (Int ⊕ Option Nat))} {i : Nat} {v : Int ⊕ Option Nat} (hi : i < PL.length) (h0 : 0 < i) (h : lv_has ls' PL.length ((i, vS ad v) :: ((0, Value.ref b) :: lof ad PL).filter (fun q => !(q.1 == i) && !(q.1 + 1 == i && q.2.category == 2)))) : l0 ad b ls' (PL.set i (some v)) := by
  refine ⟨has_lo hi ⟨h.1, h.2.1, fun q hq => ?_⟩, ?_⟩
  · refine h.2.2 q ?_
    rcases List.mem_cons.mp hq with rfl | hq
    · exact List.mem_cons_self
    · have := List.mem_filter.mp hq
      exact List.mem_cons_of_mem _ (List.mem_filter.mpr ⟨List.mem_cons_of_mem _ this.1, this.2⟩)
  · refine h.2.2 (0, Value.ref b) (List.mem_cons_of_mem _ (List.mem_filter.mpr ⟨List.mem_cons_self, ?_⟩))
    have : (0 == i) = false := by simp; omega
    simp [this, Value.category]
theorem l0_fg {ad : Nat → Nat} {b : Nat} {ls : Array Slot} {PL PL' : List (Option (Int ⊕ Option Nat))} (h : l0 ad b ls PL) (hn : PL'.length = PL.length) (hs : ∀ (i : Nat) (v : Int ⊕ Option Nat), PL'[i]? = some (some v) → PL[i]? = some (some v)) : l0 ad b ls PL' := ⟨⟨by rw [hn]; exact h.1.1, h.1.2.1, fun i v q => h.1.2.2 i v (hs i v q)⟩, h.2⟩
section LR
variable {p : Program} {l : Launch} {e : Env} {R : Room} {s : State} {m : MethodId} {args : Array Value} {below : List Frame} {meth : Method} {c : Code} {H : Heap} {locs : List Loc} {cells slots : Nat} {Q : State → Prop} {cc : ByteArray} {pc : Nat} {ls : Array Slot} {rest : List Value} {D : va_G} {cy : ClassId × ClassId × ClassId × ClassId} {A : Nat → Prop} {ad : Nat → Nat} {V : Vt} {S : Me} {own : String} {PL : List (Option (Int ⊕ Option Nat))} {b : Nat}
theorem lr_istore (C : Cx p s m args meth c cc own D cy A) {k : Nat} {x : Int} {PL' : List (Option (Int ⊕ Option Nat))} (hl : l0 ad b ls PL) (hdg : decode cc pc = .ok (.istore k, 2)) (hi : k < PL.length) (h0 : 0 < k) (h : PL.set k (some (.inl x)) = PL') (kk : ∀ ls', l0 ad b ls' PL' → W p l e R s m args below meth c H locs cells slots Q (F0 m (pc + 2) ls' rest)) : W p l e R s m args below meth c H locs cells slots Q (F0 m pc ls (vI x :: rest)) := by
  subst h
  exact lv_istore C.1 C.2.1 hdg (l0_has hl) hi rfl (fun ls' h' => kk ls' (has_l0 (v := .inl x) hi h0 h'))
theorem lr_astore (C : Cx p s m args meth c cc own D cy A) {k : Fin 4} {z : Nat} {PL' : List (Option (Int ⊕ Option Nat))} (hl : l0 ad b ls PL) (hdg : decode cc pc = .ok (.astore_n k, 1)) (hi : (k : Nat) < PL.length) (h0 : 0 < (k : Nat)) (h : PL.set k (some (.inr (some z))) = PL') (kk : ∀ ls', l0 ad b ls' PL' → W p l e R s m args below meth c H locs cells slots Q (F0 m (pc + 1) ls' rest)) : W p l e R s m args below meth c H locs cells slots Q (F0 m pc ls (vR ad (some z) :: rest)) := by
  subst h
  exact lv_astore_n C.1 C.2.1 hdg rfl (l0_has hl) hi rfl (fun ls' h' => kk ls' (has_l0 (v := .inr (some z)) hi h0 h'))
theorem lr_iinc (C : Cx p s m args meth c cc own D cy A) {k : Nat} {n x : Int} {PL' : List (Option (Int ⊕ Option Nat))} (hl : l0 ad b ls PL) (hdg : decode cc pc = .ok (.iinc k n, 3)) (hx : PL[k]? = some (some (.inl x))) (h0 : 0 < k) (h : PL.set k (some (.inl (x + n))) = PL') (kk : ∀ ls', l0 ad b ls' PL' → W p l e R s m args below meth c H locs cells slots Q (F0 m (pc + 3) ls' rest)) : W p l e R s m args below meth c H locs cells slots Q (F0 m pc ls rest) := by
  subst h
  have hi : k < PL.length := (List.getElem?_eq_some_iff.mp hx).1
  obtain ⟨k9, hk9⟩ := List.getElem?_of_mem (List.mem_cons_of_mem (0, Value.ref b) (lof_in (ad := ad) hx))
  exact lv_iinc C.1 C.2.1 hdg (l0_has hl) (k := k9) hk9 (Int32.ofInt_add x n).symm hi rfl (fun ls' h' => kk ls' (has_l0 (v := .inl (x + n)) hi h0 h'))
theorem rn_i (x : Int32) : rng x.toInt := by
  have h1 := Int32.le_toInt x
  have h2 := Int32.toInt_lt x
  unfold rng
  omega
theorem vI_i (x : Int32) : Value.int x = vI x.toInt := by unfold vI; rw [Int32.ofInt_toInt]
/-- script[i + k] -/
theorem lr_arg (C : Cx p s m args meth c cc own D cy A) (G : Gy D cy A s.heap ad V S H locs) {i k L : Nat} {xs : Nat → Int32} (hl : l0 ad b ls (lH (i : Int))) (hX : va_X b L xs s s.heap) (hbl : b < s.heap.size) (hbA : ¬ A b) (hL : L ≤ 3072) (hik : i + k < L) (d1 : decode cc pc = .ok (.aload_n 0, 1)) (d2 : decode cc (pc + 1) = .ok (.iload 4, 2)) (d3 : decode cc (pc + 3) = .ok (.iconst (k : Int), 1)) (d4 : decode cc (pc + 4) = .ok (.iadd, 1)) (d5 : decode cc (pc + 5) = .ok (.iaload, 1))
    (kk : W p l e R s m args below meth c H locs cells slots Q (F0 m (pc + 6) ls (vI (xs (i + k)).toInt :: rest))) : W p l e R s m args below meth c H locs cells slots Q (F0 m pc ls rest) := by
  refine lv_aload_n C.1 C.2.1 d1 rfl hl.2 ?_
  refine gx_iload C hl.1 d2 rfl ?_
  refine gx_iconst C d3 ?_
  refine gx_iadd C d4 ?_
  have hn : (Int32.ofInt ((i : Int) + (k : Int))).toNatClampNeg = i + k := by
    unfold Int32.toNatClampNeg
    rw [Int32.toInt_ofInt_of_le (by omega) (by omega)]; omega
  refine va_sld C.1 C.2.1 hX hbl hbA G.2.2 (i := Int32.ofInt ((i : Int) + (k : Int))) ?_ d5 ?_
  · rintro (h | h)
    · have : (Int32.ofInt ((i : Int) + (k : Int))).toInt < 0 := by
        have := Int32.lt_iff_toInt_lt.mp h
        simpa using this
      rw [Int32.toInt_ofInt_of_le (by omega) (by omega)] at this
      omega
    · rw [hn] at h; omega
  · rw [hn, vI_i]; exact kk
end LR
