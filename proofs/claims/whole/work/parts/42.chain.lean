/-! ===== PURE PART: the reference's memory, but for what it only scribbles; frames; counting; the chain of those that wait ===== -/
abbrev scr (a k : Nat) : Prop := (a = 0 ∧ (k = 0 ∨ k = 39 ∨ k = 40 ∨ k = 41 ∨ k = 42)) ∨ a = 22 ∨ a = 23 ∨ a = 24 ∨ a = 29 ∨ 30 ≤ a
abbrev Rm : Type := Nat → Nat → Int
def rf (q : Nat) (S : Me) : Rm := fun a k => if scr a k then 0 else S.1 (q + a) k
def uR (R : Rm) (a k : Nat) (x : Int) : Rm := fun b j => if b = a ∧ j = k then x else R b j
theorem uR_1 (R : Rm) (a k : Nat) (x : Int) (b j : Nat) : uR R a k x b j = if b = a ∧ j = k then x else R b j := rfl
theorem rf_a {q : Nat} {S : Me} {a k : Nat} (h : ¬ scr a k) : rf q S a k = S.1 (q + a) k := by unfold rf; rw [if_neg h]
theorem rf_0 {q : Nat} {S : Me} {k : Nat} (h : ¬ scr 0 k) : rf q S 0 k = S.1 q k := rf_a h
theorem rf_w {q : Nat} {S : Me} {a k : Nat} {x : Int} (h : ¬ scr a k) : rf q (sI S (q + a) k x) = uR (rf q S) a k x := by
  funext b j
  unfold rf uR
  rw [sI_1]
  by_cases e : b = a ∧ j = k
  · rw [if_pos e, e.1, e.2, if_neg h, if_pos ⟨rfl, rfl⟩]
  · rw [if_neg e, if_neg (show ¬ (q + b = q + a ∧ j = k) by omega)]
theorem rf_w0 {q : Nat} {S : Me} {k : Nat} {x : Int} (h : ¬ scr 0 k) : rf q (sI S q k x) = uR (rf q S) 0 k x := rf_w (a := 0) h
theorem rf_s {q : Nat} {S : Me} {a k : Nat} {x : Int} (h : scr a k) : rf q (sI S (q + a) k x) = rf q S := by
  funext b j
  unfold rf
  rw [sI_1]
  by_cases e : q + b = q + a ∧ j = k
  · have e1 : b = a := by omega
    rw [e1, e.2, if_pos h, if_pos h]
  · rw [if_neg e]
theorem rf_s0 {q : Nat} {S : Me} {k : Nat} {x : Int} (h : scr 0 k) : rf q (sI S q k x) = rf q S := rf_s (a := 0) h
theorem rf_c {q : Nat} {S S' : Me} (h : ∀ a, q ≤ a → a < q + 30 → S'.1 a = S.1 a) : rf q S' = rf q S := by
  funext a k
  unfold rf
  by_cases e : scr a k
  · rw [if_pos e, if_pos e]
  · rw [if_neg e, if_neg e, h (q + a) (by omega) (by omega)]
/-- a method of the reference leaves all else -/
def fR (q : Nat) (S S' : Me) : Prop := S'.2 = S.2 ∧ ∀ a, a < q ∨ q + 30 ≤ a → S'.1 a = S.1 a
theorem fR_rf {q : Nat} {S : Me} : fR q S S := ⟨rfl, fun _ _ => rfl⟩
theorem fR_tr {q : Nat} {S S1 S2 : Me} (h : fR q S S1) (h' : fR q S1 S2) : fR q S S2 := ⟨h'.1.trans h.1, fun a ha => (h'.2 a ha).trans (h.2 a ha)⟩
theorem fR_s {q : Nat} {S S1 : Me} {a k : Nat} {x : Int} (h : fR q S S1) (ha : a < 30) : fR q S (sI S1 (q + a) k x) := ⟨h.1, fun b hb => by rw [sI_na (by omega)]; exact h.2 b hb⟩
theorem fR_s0 {q : Nat} {S S1 : Me} {k : Nat} {x : Int} (h : fR q S S1) : fR q S (sI S1 q k x) := ⟨h.1, fun b hb => by rw [sI_na (by omega)]; exact h.2 b hb⟩
noncomputable def ic (p : Prop) : Int := @ite Int p (Classical.propDecidable p) 1 0
theorem ic_1 {p : Prop} (h : p) : ic p = 1 := by unfold ic; exact if_pos h
theorem ic_0 {p : Prop} (h : ¬ p) : ic p = 0 := by unfold ic; exact if_neg h
theorem ic_b (p : Prop) : ic p = 0 ∨ ic p = 1 := by
  by_cases h : p
  · exact Or.inr (ic_1 h)
  · exact Or.inl (ic_0 h)
noncomputable def cnt (p : Nat → Prop) : Nat → Int
  | 0 => 0
  | i + 1 => cnt p i + ic (p i)
theorem cnt_congr {p p' : Nat → Prop} : ∀ n : Nat, (∀ i, i < n → (p i ↔ p' i)) → cnt p n = cnt p' n
  | 0, _ => rfl
  | n + 1, h => by
    have e := cnt_congr n (fun i hi => h i (by omega))
    have e2 : p n = p' n := propext (h n (by omega))
    simp only [cnt]
    rw [e, e2]
theorem cnt_b (p : Nat → Prop) : ∀ n : Nat, 0 ≤ cnt p n ∧ cnt p n ≤ (n : Int)
  | 0 => by simp [cnt]
  | n + 1 => by
    have h := cnt_b p n
    have := ic_b (p n)
    simp only [cnt]
    omega
theorem cnt_0 {p : Nat → Prop} : ∀ n : Nat, (cnt p n = 0 ↔ ∀ i, i < n → ¬ p i)
  | 0 => by simp [cnt]
  | n + 1 => by
    have h := cnt_0 (p := p) n
    have hb := cnt_b p n
    simp only [cnt]
    constructor
    · intro e i hi hp
      have := ic_b (p n)
      by_cases q : i = n
      · subst q
        have := ic_1 hp
        omega
      · exact h.mp (by omega) i (by omega) hp
    · intro e
      rw [ic_0 (e n (by omega)), h.mpr (fun i hi => e i (by omega))]
      rfl
theorem cnt_del {p p' : Nat → Prop} {k : Nat} : ∀ n : Nat, k < n → p k → (∀ i, i < n → (p' i ↔ p i ∧ i ≠ k)) → cnt p' n = cnt p n - 1
  | 0, h, _, _ => by omega
  | n + 1, hk, hp, h => by
    simp only [cnt]
    by_cases e : k = n
    · subst e
      rw [ic_1 hp, ic_0 (fun q => ((h k (by omega)).mp q).2 rfl), cnt_congr (p := p') (p' := p) k (fun i hi => ⟨fun q => ((h i (by omega)).mp q).1, fun q => (h i (by omega)).mpr ⟨q, by omega⟩⟩)]
      omega
    · have := cnt_del (p := p) (p' := p') (k := k) n (by omega) hp (fun i hi => h i (by omega))
      have e2 : p' n = p n := propext ⟨fun q => ((h n (by omega)).mp q).1, fun q => (h n (by omega)).mpr ⟨q, by omega⟩⟩
      rw [this, e2]
      omega
theorem cnt_add {p a b : Nat → Prop} : ∀ n : Nat, (∀ i, i < n → (p i ↔ a i ∨ b i)) → (∀ i, i < n → ¬ (a i ∧ b i)) → cnt p n = cnt a n + cnt b n
  | 0, _, _ => by simp [cnt]
  | n + 1, h, h' => by
    have e := cnt_add (p := p) (a := a) (b := b) n (fun i hi => h i (by omega)) (fun i hi => h' i (by omega))
    simp only [cnt]
    rw [e]
    have q := h n (by omega)
    have q' := h' n (by omega)
    by_cases ha : a n
    · by_cases hb : b n
      · exact absurd ⟨ha, hb⟩ q'
      · rw [ic_1 (q.mpr (Or.inl ha)), ic_1 ha, ic_0 hb]; omega
    · by_cases hb : b n
      · rw [ic_1 (q.mpr (Or.inr hb)), ic_0 ha, ic_1 hb]; omega
      · rw [ic_0 (fun g => (q.mp g).elim ha hb), ic_0 ha, ic_0 hb]; omega
/-- r is the cell of the first from i on that waits -/
def Nx (w : Nat → Prop) (c : Nat → Nat) (i : Nat) (r : Option Nat) : Prop := (r = none ∧ ∀ j, i ≤ j → ¬ w j) ∨ ∃ j, r = some (c j) ∧ i ≤ j ∧ w j ∧ ∀ j', i ≤ j' → j' < j → ¬ w j'
/-- r is the cell of the last below n that waits -/
def Lt (w : Nat → Prop) (c : Nat → Nat) (n : Nat) (r : Option Nat) : Prop := (r = none ∧ ∀ j, j < n → ¬ w j) ∨ ∃ j, r = some (c j) ∧ j < n ∧ w j ∧ ∀ j', j < j' → j' < n → ¬ w j'
/-- the chain of a Queue at u -/
def Cn (S : Me) (u : Nat) (c : Nat → Nat) (w : Nat → Prop) (n : Nat) : Prop := Nx w c 0 (S.2 u 4) ∧ (∀ i, w i → Nx w c (i + 1) (S.2 (c i) 8)) ∧ Lt w c n (S.2 u 5)
theorem Nx.cg {w w' : Nat → Prop} {c : Nat → Nat} {i : Nat} {r : Option Nat} (h : ∀ j, i ≤ j → (w j ↔ w' j)) (a : Nx w c i r) : Nx w' c i r := by
  rcases a with ⟨e, a⟩ | ⟨j, e, b1, b2, b3⟩
  · exact Or.inl ⟨e, fun j hj q => a j hj ((h j hj).mpr q)⟩
  · exact Or.inr ⟨j, e, b1, (h j b1).mp b2, fun j' h1 h2 q => b3 j' h1 h2 ((h j' h1).mpr q)⟩
theorem Nx.sk {w : Nat → Prop} {c : Nat → Nat} {i : Nat} {r : Option Nat} (h : ¬ w i) (a : Nx w c i r) : Nx w c (i + 1) r := by
  rcases a with ⟨e, a⟩ | ⟨j, e, b1, b2, b3⟩
  · exact Or.inl ⟨e, fun j hj => a j (by omega)⟩
  · have : j ≠ i := fun q => by subst q; exact h b2
    exact Or.inr ⟨j, e, by omega, b2, fun j' h1 h2 => b3 j' (by omega) h2⟩
theorem p_unlink {V : Vt} {u : Nat} {S : Me} {Q : Me → Prop} {c : Nat → Nat} {w : Nat → Prop} {n j : Nat} {ahead : Option Nat} (hw : ∀ i, w i → i < n) (hc : ∀ i k, i < n → k < n → c i = c k → i = k) (hu : ∀ i, i < n → c i ≠ u) (hA : ∀ i, i < n → isA (V.2.1 (c i))) (h : Cn S u c w n) (hj : w j) (ha : Lt w c j ahead) (h7 : rng (S.1 u 7 - 1))
    (k : ∀ S', S'.1 = (sI S u 7 (S.1 u 7 - 1)).1 → (∀ a i, (a ≠ u ∨ (i ≠ 4 ∧ i ≠ 5)) → (i ≠ 8 ∨ ∀ j, j < n → a ≠ c j) → S'.2 a i = S.2 a i) → S'.2 (c j) 8 = S.2 (c j) 8 → Cn S' u c (fun i => w i ∧ i ≠ j) n → Q S') : PT_X7_unlink V u (some (c j)) ahead S Q := by
  obtain ⟨n1, n2, n3⟩ := h
  have hjn := hw j hj
  have nj := n2 j hj
  -- what the two stores make of it
  have fin : ∀ S1 : Me, S1.1 = S.1 → (∀ a i, (a ≠ u ∨ i ≠ 4) → (i ≠ 8 ∨ ∀ j, j < n → a ≠ c j) → S1.2 a i = S.2 a i) → S1.2 (c j) 8 = S.2 (c j) 8 → Nx (fun i => w i ∧ i ≠ j) c 0 (S1.2 u 4) → (∀ i, w i → i ≠ j → Nx (fun i => w i ∧ i ≠ j) c (i + 1) (S1.2 (c i) 8)) → B_X7_unlink_23 V u (some (c j)) ahead S1 Q := by
    intro S1 e1 e2 e3 e4 e5
    have u5 : S1.2 u 5 = S.2 u 5 := e2 u 5 (Or.inr (by decide)) (Or.inl (by decide))
    unfold B_X7_unlink_23
    rw [u5]
    refine ⟨fun g => ?_, fun g S6 e6 => ?_⟩
    · unfold B_X7_unlink_36
      rw [e1]
      refine ⟨h7, fun S3 q3 => ?_⟩
      subst q3
      refine k _ ?_ ?_ ?_ ⟨?_, ?_, ?_⟩
      · rw [← e1]; funext a b; rw [sI_1, sI_1, e1]
      · intro a i b1 b2
        rw [sI_2]
        exact e2 a i (by omega) b2
      · rw [sI_2]; exact e3
      · rw [sI_2]; exact e4
      · intro i hi
        rw [sI_2]
        exact e5 i hi.1 hi.2
      · rw [sI_2, u5]
        rcases n3 with ⟨q, q2⟩ | ⟨l, q, q1, q2, q3⟩
        · exact absurd hj (q2 j hjn)
        · have : l ≠ j := fun e => g (by rw [q, e])
          exact Or.inr ⟨l, q, q1, ⟨q2, this⟩, fun j' h1 h2 h3 => q3 j' h1 h2 h3.1⟩
    · unfold B_X7_unlink_36
      have e61 : S6.1 = S.1 := by rw [e6, sP_1, e1]
      rw [e61]
      have s6 : ∀ a i, (a ≠ u ∨ i ≠ 5) → S6.2 a i = S1.2 a i := fun a i hi => by
        rw [e6, sP_2, if_neg (by omega)]
      refine ⟨h7, fun S3 q3 => ?_⟩
      subst q3
      refine k _ ?_ ?_ ?_ ⟨?_, ?_, ?_⟩
      · funext a b; rw [sI_1, sI_1, e61]
      · intro a i b1 b2
        rw [sI_2, s6 a i (by omega)]
        exact e2 a i (by omega) b2
      · rw [sI_2, s6 _ _ (Or.inr (by decide))]; exact e3
      · rw [sI_2, s6 _ _ (Or.inr (by decide))]; exact e4
      · intro i hi
        rw [sI_2, s6 _ _ (Or.inr (by decide))]
        exact e5 i hi.1 hi.2
      · rw [sI_2, e6, sP_2, if_pos ⟨rfl, rfl⟩]
        rcases n3 with ⟨q, q2⟩ | ⟨l, q, q1, q2, q3⟩
        · exact absurd hj (q2 j hjn)
        · have e : j = l := hc j l hjn q1 (Option.some.inj (g.symm.trans q))
          subst e
          rcases ha with ⟨a1, a2⟩ | ⟨i, a1, a2, a3, a4⟩
          · refine Or.inl ⟨a1, fun j' h1 h2 => ?_⟩
            rcases Nat.lt_trichotomy j' j with z | z | z
            · exact a2 j' z h2.1
            · exact h2.2 z
            · exact q3 j' z h1 h2.1
          · refine Or.inr ⟨i, a1, by omega, ⟨a3, by omega⟩, fun j' h1 h2 h3 => ?_⟩
            rcases Nat.lt_trichotomy j' j with z | z | z
            · exact a4 j' h1 z h3.1
            · exact h3.2 z
            · exact q3 j' z h2 h3.1
  -- the one behind j, seen from before j
  have hop : ∀ i, (∀ j', i ≤ j' → j' < j → ¬ w j') → i ≤ j → Nx (fun i => w i ∧ i ≠ j) c i (S.2 (c j) 8) := by
    intro i hi hij
    rcases nj with ⟨e, a⟩ | ⟨l, e, b1, b2, b3⟩
    · refine Or.inl ⟨e, fun j' h1 h2 => ?_⟩
      rcases Nat.lt_trichotomy j' j with z | z | z
      · exact hi j' h1 z h2.1
      · exact h2.2 z
      · exact a j' (by omega) h2.1
    · refine Or.inr ⟨l, e, by omega, ⟨b2, by omega⟩, fun j' h1 h2 h3 => ?_⟩
      rcases Nat.lt_trichotomy j' j with z | z | z
      · exact hi j' h1 z h3.1
      · exact h3.2 z
      · exact b3 j' (by omega) h2 h3.1
  -- another's next, if it isn't j
  have oth : ∀ i r, Nx w c i r → (∀ l, r = some (c l) → l ≠ j) → Nx (fun i => w i ∧ i ≠ j) c i r := by
    intro i r hr hl
    rcases hr with ⟨e, a⟩ | ⟨l, e, b1, b2, b3⟩
    · exact Or.inl ⟨e, fun j' h1 h2 => a j' h1 h2.1⟩
    · exact Or.inr ⟨l, e, b1, ⟨b2, hl l e⟩, fun j' h1 h2 h3 => b3 j' h1 h2 h3.1⟩
  unfold PT_X7_unlink
  refine ⟨fun g => ?_, fun g => ?_⟩
  · rcases ha with ⟨a1, -⟩ | ⟨i, a1, a2, a3, a4⟩
    · exact absurd a1 g
    · have hin := hw i a3
      refine ⟨c j, rfl, hA j hjn, c i, a1, hA i hin, fun S1 e1 => ?_⟩
      subst e1
      have hij : c j ≠ c i := fun e => by have := hc j i hjn hin e; omega
      refine fin _ rfl ?_ ?_ ?_ ?_
      · intro a b h1 h2
        rw [sP_2, if_neg]
        rintro ⟨r1, r2⟩
        rcases h2 with h2 | h2
        · exact h2 r2
        · exact h2 i hin r1
      · rw [sP_2, if_neg (fun q => hij q.1)]
      · rw [sP_2, if_neg (fun q => hu i hin q.1.symm)]
        refine oth 0 _ n1 (fun l e => ?_)
        rcases n1 with ⟨q, q2⟩ | ⟨l', q, q1, q2, q3⟩
        · exact absurd hj (q2 j (by omega))
        · have e1 : c l = c l' := Option.some.inj (e.symm.trans q)
          intro z
          subst z
          have : l = l' := hc l l' hjn (hw l' q2) e1
          subst this
          exact q3 i (by omega) a2 a3
      · intro i' hi' hne
        rw [sP_2]
        by_cases e : i' = i
        · subst e
          rw [if_pos ⟨rfl, rfl⟩]
          exact hop (i' + 1) (fun j' h1 h2 => a4 j' (by omega) h2) (by omega)
        · rw [if_neg (fun q => e (hc i' i (hw i' hi') hin q.1))]
          have hn := n2 i' hi'
          refine oth (i' + 1) _ hn (fun l el => ?_)
          rcases hn with ⟨q, q2⟩ | ⟨l', q, q1, q2, q3⟩
          · rw [q] at el; cases el
          · have e1 : c l = c l' := Option.some.inj (el.symm.trans q)
            intro z
            subst z
            have : l = l' := hc l l' hjn (hw l' q2) e1
            subst this
            rcases Nat.lt_trichotomy i' i with y | y | y
            · exact q3 i (by omega) (by omega) a3
            · exact e y
            · exact a4 i' y (by omega) hi'
  · rcases ha with ⟨-, a2⟩ | ⟨i, a1, -⟩
    · refine ⟨c j, rfl, hA j hjn, fun S1 e1 => ?_⟩
      subst e1
      refine fin _ rfl ?_ ?_ ?_ ?_
      · intro a b h1 h2
        rw [sP_2, if_neg (by omega)]
      · rw [sP_2, if_neg (fun q => hu j hjn q.1)]
      · rw [sP_2, if_pos ⟨rfl, rfl⟩]
        exact hop 0 (fun j' _ h2 => a2 j' h2) (by omega)
      · intro i' hi' hne
        rw [sP_2, if_neg (fun q => hu i' (hw i' hi') q.1)]
        have hn := n2 i' hi'
        refine oth (i' + 1) _ hn (fun l el => ?_)
        rcases hn with ⟨q, q2⟩ | ⟨l', q, q1, q2, q3⟩
        · rw [q] at el; cases el
        · have e1 : c l = c l' := Option.some.inj (el.symm.trans q)
          intro z
          subst z
          have : l = l' := hc l l' hjn (hw l' q2) e1
          subst this
          exact a2 i' (by omega) hi'
    · rw [a1] at g; cases g
