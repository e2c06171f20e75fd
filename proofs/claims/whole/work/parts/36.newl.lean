/-! ===== the law's row of one long ===== -/
theorem uwArrL : Cond.arrayClass (Op.newarray.typeOf .long) ∈ UW := uwT 1376 (by decide +kernel) (by decide +kernel)
section GNl
variable {p : Program} {l : Launch} {e : Env} {R : Room} {s : State} {m : MethodId} {args : Array Value} {below : List Frame} {meth : Method} {c : Code} {H : Heap} {locs : List Loc} {cells slots : Nat} {Q : State → Prop} {cc : ByteArray} {pc : Nat} {ls : Array Slot} {rest : List Value} {D : va_G} {cy : ClassId × ClassId × ClassId × ClassId} {A : Nat → Prop} {ad : Nat → Nat} {V : Vt} {S : Me} {own : String} {PL : List (Option (Int ⊕ Option Nat))}
theorem gx_newl (C : Cx p s m args meth c cc own D cy A) (G : Gy D cy A s.heap ad V S H locs) (hlo : lo ad ls PL) (okP : ∀ v, some v ∈ PL → okv V v) {n : Int} (rn : rng n) (N : Nat) (h0 : 0 ≤ n) (hN : n ≤ (N : Int)) (hNb : N ≤ 100000) (hcells : cells + 1 ≤ R.cells) (hslots : slots + N ≤ R.slots) (rs : List (Int ⊕ Option Nat)) (hrs : rest = rs.map (vS ad)) (okS : ∀ v ∈ rs, okv V v) (hdg : decode cc pc = .ok (.newarray .long, 2))
    (kk : ∀ (ad' : Nat → Nat) (V' : Vt) (S' : Me) (H1 : Heap), V' = nV V 15 n.toNat → S' = nS V S → (∀ k, k < V.1 → ad' k = ad k) → exV V V' → lo ad' ls PL → Gy D cy A s.heap ad' V' S' H1 locs → W p l e R s m args below meth c H1 locs (cells + 1) (slots + N) Q (F0 m (pc + 2) ls (vR ad' (some V.1) :: rs.map (vS ad')))) : W p l e R s m args below meth c H locs cells slots Q (F0 m pc ls (vI n :: rest)) := by
  have hts := C.2.2.2.1
  refine va_newa (atype := .long) (N' := n.toNat) (a0 := (n.toNat, .inr (.inl (fun _ => Int64.ofInt 0)))) C.1 C.2.1 (hts _ uwArrL) rfl C.2.2.2.2.1.1 G.1.1 G.D G.2.2 C.2.2.2.2.2.1 (fun cA => rfl) (fun h => absurd ((rg_lt rn (show rng 0 by decide)).mp h) (by omega)) (rg_cl rn) (by show n.toNat * 8 ≤ 536870912; omega) hcells (by omega) hdg (fun q cA H1 hK' hP hD hS => ?_)
  have e9 := cL_eq C.2.2.2.2.1.1 hK'
  subst e9
  rw [← cf_l (cy := cy) (ad := ad) (t := 15) (L := n.toNat) (i := fun _ => 0) (p := fun _ => none) (f := fun _ => none) rfl] at hP hD
  have h := kk (nA V ad q) _ _ H1 rfl rfl nA_ag (exV.nw V 15 n.toNat) (lo_mv nA_ag okP hlo) (Gy_nw G (by omega) hP hD hS)
  rw [vs_mv nA_ag okS, ← hrs, show vR (nA V ad q) (some V.1) = .ref q by simp [vR, va_rf, nA]] at h
  exact W.widen (k := cells + 1) (n := slots + N) (Nat.le_refl _) (by omega) h
end GNl
