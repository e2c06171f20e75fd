/-! ===== PURE PART: the order ===== -/
/-- the rank of the k-th -/
def rk (R : Rm) (k : Nat) : Int := if R 0 4 = 0 ∨ (R 0 4 = 1 ∧ R 0 5 ≤ R 0 25) then 0 else if R 0 4 = 1 then (if R 2 (bk (R 6 k)).toNat = Int.tdiv (R 6 k) 64 then 0 else 1) else 4 * R 12 (R 5 k).toNat + R 5 k
/-- j is put behind all of no greater rank -/
def ins (f : Nat → Int) (j : Nat) (l : List Nat) : List Nat := l.filter (fun x => decide (f x ≤ f j)) ++ j :: l.filter (fun x => decide (f j < f x))
def ordN (R : Rm) : Nat → List Nat
  | 0 => []
  | i + 1 => if R 10 i = 0 ∧ ¬ R 4 i = 4 then ins (rk R) i (ordN R i) else ordN R i
def ord (R : Rm) : List Nat := ordN R (nA_ R)
theorem ins_eq {f : Nat → Int} {j : Nat} {a b : List Nat} (ha : ∀ x ∈ a, f x ≤ f j) (hb : ∀ x ∈ b, f j < f x) : ins f j (a ++ b) = a ++ j :: b := by
  unfold ins
  rw [List.filter_append, List.filter_append]
  have e1 : a.filter (fun x => decide (f x ≤ f j)) = a := List.filter_eq_self.mpr (fun x hx => by simpa using ha x hx)
  have e2 : b.filter (fun x => decide (f x ≤ f j)) = [] := List.filter_eq_nil_iff.mpr (fun x hx => by have := hb x hx; simp; omega)
  have e3 : a.filter (fun x => decide (f j < f x)) = [] := List.filter_eq_nil_iff.mpr (fun x hx => by have := ha x hx; simp; omega)
  have e4 : b.filter (fun x => decide (f j < f x)) = b := List.filter_eq_self.mpr (fun x hx => by simpa using hb x hx)
  rw [e1, e2, e3, e4]
  simp
theorem ins_mem {f : Nat → Int} {j x : Nat} {l : List Nat} : x ∈ ins f j l ↔ x = j ∨ x ∈ l := by
  unfold ins
  simp only [List.mem_append, List.mem_cons, List.mem_filter, decide_eq_true_eq]
  constructor
  · rintro (h | h | h)
    · exact Or.inr h.1
    · exact Or.inl h
    · exact Or.inr h.1
  · rintro (h | h)
    · exact Or.inr (Or.inl h)
    · by_cases q : f x ≤ f j
      · exact Or.inl ⟨h, q⟩
      · exact Or.inr (Or.inr ⟨h, by omega⟩)
theorem ins_len {f : Nat → Int} {j : Nat} : ∀ l : List Nat, (ins f j l).length = l.length + 1
  | [] => by simp [ins]
  | a :: l => by
    have h := ins_len (f := f) (j := j) l
    unfold ins at h ⊢
    simp only [List.length_append, List.length_cons] at h ⊢
    rw [List.filter_cons, List.filter_cons]
    by_cases q : f a ≤ f j
    · have q2 : ¬ f j < f a := by omega
      simp only [q, q2, decide_true, decide_false, if_true, List.length_cons]
      simp
      omega
    · have q2 : f j < f a := by omega
      simp only [q, q2, decide_true, decide_false, if_true, List.length_cons]
      simp
      omega
def srt (f : Nat → Int) (l : List Nat) : Prop := l.Pairwise (fun a b => f a ≤ f b)
theorem srt_ins {f : Nat → Int} {j : Nat} {l : List Nat} (h : srt f l) : srt f (ins f j l) := by
  unfold srt ins
  rw [List.pairwise_append]
  refine ⟨List.Pairwise.filter _ h, ?_, ?_⟩
  · rw [List.pairwise_cons]
    refine ⟨fun x hx => ?_, List.Pairwise.filter _ h⟩
    have := (List.mem_filter.mp hx).2
    simp at this
    omega
  · intro x hx y hy
    have a := (List.mem_filter.mp hx).2
    simp at a
    rcases List.mem_cons.mp hy with e | e
    · rw [e]; exact a
    · have b := (List.mem_filter.mp e).2
      simp at b
      omega
theorem ordN_m {R : Rm} : ∀ (i x : Nat), x ∈ ordN R i → x < i ∧ R 10 x = 0 ∧ ¬ R 4 x = 4
  | 0, x, h => by simp [ordN] at h
  | i + 1, x, h => by
    unfold ordN at h
    split at h
    · rename_i q
      rcases ins_mem.mp h with e | e
      · subst e; exact ⟨by omega, q⟩
      · have := ordN_m i x e; exact ⟨by omega, this.2⟩
    · have := ordN_m i x h; exact ⟨by omega, this.2⟩
theorem ordN_in {R : Rm} : ∀ (i x : Nat), x < i → R 10 x = 0 → ¬ R 4 x = 4 → x ∈ ordN R i
  | 0, x, h, _, _ => by omega
  | i + 1, x, h, h1, h2 => by
    unfold ordN
    by_cases e : x = i
    · subst e
      rw [if_pos ⟨h1, h2⟩]
      exact ins_mem.mpr (Or.inl rfl)
    · have := ordN_in (R := R) i x (by omega) h1 h2
      split
      · exact ins_mem.mpr (Or.inr this)
      · exact this
theorem ordN_s {R : Rm} : ∀ i : Nat, srt (rk R) (ordN R i)
  | 0 => List.Pairwise.nil
  | i + 1 => by
    unfold ordN
    split
    · exact srt_ins (ordN_s i)
    · exact ordN_s i
theorem ins_nd {f : Nat → Int} {j : Nat} {l : List Nat} (h : l.Nodup) (hj : j ∉ l) : (ins f j l).Nodup := by
  unfold ins
  rw [List.nodup_append]
  refine ⟨List.Pairwise.filter _ h, ?_, ?_⟩
  · rw [List.nodup_cons]
    exact ⟨fun q => hj (List.mem_filter.mp q).1, List.Pairwise.filter _ h⟩
  · intro x hx y hy e
    subst e
    have a := List.mem_filter.mp hx
    rcases List.mem_cons.mp hy with e | e
    · subst e; exact hj a.1
    · have b := (List.mem_filter.mp e).2
      have a2 := a.2
      simp at a2 b
      omega
theorem ordN_nd {R : Rm} : ∀ i : Nat, (ordN R i).Nodup
  | 0 => List.Pairwise.nil
  | i + 1 => by
    unfold ordN
    split
    · exact ins_nd (ordN_nd i) (fun q => by have := (ordN_m i i q).1; omega)
    · exact ordN_nd i
theorem ordN_l {R : Rm} : ∀ i : Nat, (i : Int) ≤ R 0 13 → ((ordN R i).length : Int) = cnt (pw R) i
  | 0, _ => by simp [ordN, cnt]
  | i + 1, h => by
    have e := ordN_l (R := R) i (by omega)
    unfold ordN
    simp only [cnt]
    by_cases q : R 10 i = 0 ∧ ¬ R 4 i = 4
    · rw [if_pos q, ins_len, ic_1 (show pw R i from ⟨⟨by omega, q.1⟩, q.2⟩)]
      omega
    · rw [if_neg q, ic_0 (fun z => q ⟨z.1.2, z.2⟩)]
      omega
/-- no one between: the same list -/
theorem ordN_sk {R : Rm} : ∀ (d i : Nat), (∀ j, i ≤ j → j < i + d → ¬ (R 10 j = 0 ∧ ¬ R 4 j = 4)) → ordN R (i + d) = ordN R i
  | 0, _, _ => rfl
  | d + 1, i, h => by
    have e := ordN_sk (R := R) d i (fun j h1 h2 => h j h1 (by omega))
    rw [← e]
    show ordN R ((i + d) + 1) = ordN R (i + d)
    rw [ordN, if_neg (h (i + d) (by omega) (by omega))]
/-- a part of the chain by 'behind', from r to r' -/
def Sg (S : Me) (c : Nat → Nat) : Option Nat → List Nat → Option Nat → Prop
  | r, [], r' => r = r'
  | r, x :: l, r' => r = some (c x) ∧ Sg S c (S.2 (c x) 9) l r'
theorem Sg_a {S : Me} {c : Nat → Nat} : ∀ (a b : List Nat) (r r' : Option Nat), Sg S c r (a ++ b) r' ↔ ∃ m, Sg S c r a m ∧ Sg S c m b r'
  | [], b, r, r' => ⟨fun h => ⟨r, rfl, h⟩, fun ⟨m, h1, h2⟩ => by rw [show r = m from h1]; exact h2⟩
  | x :: a, b, r, r' => by
    show (r = some (c x) ∧ Sg S c (S.2 (c x) 9) (a ++ b) r') ↔ _
    rw [Sg_a a b]
    constructor
    · rintro ⟨h1, m, h2, h3⟩
      exact ⟨m, ⟨h1, h2⟩, h3⟩
    · rintro ⟨m, ⟨h1, h2⟩, h3⟩
      exact ⟨h1, m, h2, h3⟩
theorem Sg_c {S S' : Me} {c : Nat → Nat} : ∀ (l : List Nat) (r r' : Option Nat), (∀ x ∈ l, S'.2 (c x) 9 = S.2 (c x) 9) → Sg S c r l r' → Sg S' c r l r'
  | [], _, _, _, h => h
  | x :: l, r, r', hx, h => ⟨h.1, by rw [hx x List.mem_cons_self]; exact Sg_c l _ _ (fun y hy => hx y (List.mem_cons_of_mem _ hy)) h.2⟩
