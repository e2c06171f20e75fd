/-! ===== PURE PART: parts of the invariant over another reference memory; the begin of a tick ===== -/
theorem jP_R {o : Nat} {S : Me} {R R' : Rm} (h26 : R' 0 26 = R 0 26) (h13 : R' 13 = R 13) (h14 : R' 14 = R 14) (h15 : R' 15 = R 15) (h6 : R' 0 6 = R 0 6) (h10 : R' 0 10 = R 0 10) (h : jP o S R) : jP o S R' := by
  have e0 : eR R' = eR R := by funext i; unfold eR; rw [h26]
  have e1 : tkR R' = tkR R := by funext i; unfold tkR; rw [h13, e0]
  have e2 : whR R' = whR R := by funext i; unfold whR; rw [h14, e0]
  have e3 : bkR R' = bkR R := by funext i; unfold bkR; rw [h15, e0]
  have e4 : nR_ R' = nR_ R := by unfold nR_; rw [h26]
  unfold jP
  rw [e1, e2, e3, e4, h6, h10]
  exact h
theorem rG_R {R R' : Rm} (h26 : R' 0 26 = R 0 26) (h13 : R' 13 = R 13) (h14 : R' 14 = R 14) (h15 : R' 15 = R 15) (h6 : R' 0 6 = R 0 6) (h : rG R) : rG R' := by
  have e0 : eR R' = eR R := by funext i; unfold eR; rw [h26]
  have e1 : tkR R' = tkR R := by funext i; unfold tkR; rw [h13, e0]
  have e2 : whR R' = whR R := by funext i; unfold whR; rw [h14, e0]
  have e3 : bkR R' = bkR R := by funext i; unfold bkR; rw [h15, e0]
  have e4 : nR_ R' = nR_ R := by unfold nR_; rw [h26]
  unfold rG
  rw [e1, e2, e3, e4, h6]
  exact h
theorem jL_R {o : Nat} {S : Me} {R R' : Rm} (h30 : R' 0 30 = R 0 30) (h37 : R' 0 37 = R 0 37) (h16 : R' 16 = R 16) (h17 : R' 17 = R 17) (h18 : R' 18 = R 18) (h19 : R' 19 = R 19) (h20 : R' 20 = R 20) (h21 : R' 21 = R 21) (h : jL o S R) : jL o S R' := by
  unfold jL
  rw [h30, h37, h16, h17, h18, h19, h20, h21]
  exact h
theorem rL_R {R R' : Rm} (h30 : R' 0 30 = R 0 30) (h17 : R' 17 = R 17) (h18 : R' 18 = R 18) (h19 : R' 19 = R 19) (h : rL R) : rL R' := by
  unfold rL
  rw [h30, h17, h18, h19]
  exact h
theorem jM_R {o : Nat} {S : Me} {R R' : Rm} (h3 : R' 3 = R 3) (h2 : R' 2 = R 2) (h : jM o S R) : jM o S R' := by
  unfold jM
  rw [h3, h2]
  exact h
theorem rM_R {R R' : Rm} (h3 : R' 3 = R 3) (h2 : R' 2 = R 2) (h : rM R) : rM R' := by
  unfold rM
  rw [h3, h2]
  exact h
theorem rS_R {R R' : Rm} (h1 : R' 1 = R 1) (h2 : R' 0 2 = R 0 2) (h3 : R' 0 3 = R 0 3) (h4 : R' 0 4 = R 0 4) (h5 : R' 0 5 = R 0 5) (h : rS R) : rS R' := by
  unfold rS
  rw [h1, h2, h3, h4, h5]
  exact h
theorem jH_R {o : Nat} {V : Vt} {S : Me} {c : Nat → Nat} {R R' : Rm} (h13 : R' 0 13 = R 0 13) (h25 : R' 25 = R 25) (h26 : R' 26 = R 26) (h27 : R' 27 = R 27) (h28 : R' 28 = R 28) (h : jH o V S c R) : jH o V S c R' := by
  unfold jH
  rw [h13, h25, h26, h27, h28]
  exact h
noncomputable def ifP (p : Prop) (x y : Int) : Int := @ite Int p (Classical.propDecidable p) x y
theorem ifP_1 {p : Prop} {x y : Int} (h : p) : ifP p x y = x := by unfold ifP; exact if_pos h
theorem ifP_0 {p : Prop} {x y : Int} (h : ¬ p) : ifP p x y = y := by unfold ifP; exact if_neg h
/-- a fence that the begin of a tick does -/
def frF (R : Rm) (k : Nat) : Prop := fw R k ∧ ∀ j, j < k → ¬ (pw R j ∧ R 5 j = R 5 k)
def owR (R : Rm) : Int := if ¬ R 0 2 = 0 ∧ R 0 6 % R 0 2 = 0 then R 0 7 + 1 else R 0 7
/-- the begin, with the fences below i looked at -/
noncomputable def bgi (R : Rm) (i : Nat) : Rm := fun a k => if a = 10 then ifP (k < i ∧ frF R k) (R 0 6) (R 10 k) else if a = 0 ∧ k = 7 then owR R else if a = 0 ∧ k = 14 then cnt (fun j => wt R j ∧ ¬ (j < i ∧ frF R j)) (nA_ R) else R a k
theorem bgi_o {R : Rm} {i a k : Nat} (h : a ≠ 10) (h' : ¬ (a = 0 ∧ (k = 7 ∨ k = 14))) : bgi R i a k = R a k := by
  unfold bgi
  rw [if_neg h, if_neg (by omega), if_neg (by omega)]
theorem bgi_a {R : Rm} {i a : Nat} (h : a ≠ 10) (h' : a ≠ 0) : bgi R i a = R a := funext fun k => bgi_o h (by omega)
theorem bgi_10 {R : Rm} {i k : Nat} : bgi R i 10 k = ifP (k < i ∧ frF R k) (R 0 6) (R 10 k) := by
  unfold bgi
  rw [if_pos rfl]
theorem bgi_7 {R : Rm} {i : Nat} : bgi R i 0 7 = owR R := by
  unfold bgi
  rw [if_neg (by decide), if_pos ⟨rfl, rfl⟩]
theorem bgi_14 {R : Rm} {i : Nat} : bgi R i 0 14 = cnt (fun j => wt R j ∧ ¬ (j < i ∧ frF R j)) (nA_ R) := by
  unfold bgi
  rw [if_neg (by decide), if_neg (by decide), if_pos ⟨rfl, rfl⟩]
theorem bgi_wt {R : Rm} {i k : Nat} (h6 : 1 ≤ R 0 6) : wt (bgi R i) k ↔ wt R k ∧ ¬ (k < i ∧ frF R k) := by
  unfold wt
  rw [bgi_o (by decide) (by decide), bgi_10]
  by_cases q : k < i ∧ frF R k
  · rw [ifP_1 q]
    constructor
    · intro z; have := z.2; omega
    · intro z; exact absurd q z.2
  · rw [ifP_0 q]
    exact ⟨fun z => ⟨z, q⟩, fun z => z.1⟩
theorem frF_n {R : Rm} {k : Nat} (h : frF R k) : ¬ pw R k := fun z => z.2 h.1.2
theorem bgi_pw {R : Rm} {i k : Nat} (h6 : 1 ≤ R 0 6) : pw (bgi R i) k ↔ pw R k := by
  unfold pw
  rw [bgi_wt h6, bgi_a (by decide) (by decide)]
  constructor
  · intro z; exact ⟨z.1.1, z.2⟩
  · intro z; exact ⟨⟨z.1, fun w => frF_n w.2 z⟩, z.2⟩
theorem bgi_fw {R : Rm} {i k : Nat} (h6 : 1 ≤ R 0 6) : fw (bgi R i) k ↔ fw R k ∧ ¬ (k < i ∧ frF R k) := by
  unfold fw
  rw [bgi_wt h6, bgi_a (by decide) (by decide)]
  constructor
  · intro z; exact ⟨⟨z.1.1, z.2⟩, z.1.2⟩
  · intro z; exact ⟨⟨z.1.1, z.2⟩, z.1.2⟩
theorem bgi_sk {R : Rm} {i j : Nat} (hij : i ≤ j) (h : ∀ k, i ≤ k → k < j → ¬ frF R k) : bgi R j = bgi R i := by
  have e : ∀ k, (k < j ∧ frF R k) ↔ (k < i ∧ frF R k) := fun k => ⟨fun z => ⟨by
    rcases Nat.lt_or_ge k i with w | w
    · exact w
    · exact absurd z.2 (h k w z.1), z.2⟩, fun z => ⟨by omega, z.2⟩⟩
  funext a k
  unfold bgi
  have e2 : (k < j ∧ frF R k) = (k < i ∧ frF R k) := propext (e k)
  have e3 : cnt (fun l => wt R l ∧ ¬ (l < j ∧ frF R l)) (nA_ R) = cnt (fun l => wt R l ∧ ¬ (l < i ∧ frF R l)) (nA_ R) := cnt_congr _ (fun l _ => by rw [e l])
  rw [e2, e3]
/-- one more fence is done -/
theorem bgi_s {R : Rm} {j : Nat} (hr : rA R) (h : frF R j) : bgi R (j + 1) = uR (uR (bgi R j) 10 j (R 0 6)) 0 14 (bgi R j 0 14 - 1) := by
  have hjn := wt_n hr j h.1.1
  have e3 : cnt (fun l => wt R l ∧ ¬ (l < j + 1 ∧ frF R l)) (nA_ R) = cnt (fun l => wt R l ∧ ¬ (l < j ∧ frF R l)) (nA_ R) - 1 := by
    refine cnt_del (k := j) _ hjn ⟨h.1.1, fun z => by omega⟩ (fun l _ => ?_)
    constructor
    · rintro ⟨z1, z2⟩
      refine ⟨⟨z1, fun w => z2 ⟨by omega, w.2⟩⟩, fun e => z2 ⟨by omega, by rw [e]; exact h⟩⟩
    · rintro ⟨⟨z1, z2⟩, z3⟩
      exact ⟨z1, fun w => z2 ⟨by omega, w.2⟩⟩
  funext a k
  rw [uR_1, uR_1]
  by_cases q : a = 0 ∧ k = 14
  · rw [if_pos q, q.1, q.2, bgi_14, bgi_14, e3]
  · rw [if_neg q]
    by_cases q2 : a = 10 ∧ k = j
    · rw [if_pos q2, q2.1, q2.2, bgi_10, ifP_1 ⟨by omega, h⟩]
    · rw [if_neg q2]
      by_cases q3 : a = 10
      · subst q3
        rw [bgi_10, bgi_10]
        by_cases z : k < j ∧ frF R k
        · rw [ifP_1 z, ifP_1 ⟨by omega, z.2⟩]
        · rw [ifP_0 z, ifP_0 (fun w => z ⟨by omega, w.2⟩)]
      · by_cases q4 : a = 0 ∧ k = 7
        · rw [q4.1, q4.2, bgi_7, bgi_7]
        · rw [bgi_o q3 (by omega), bgi_o q3 (by omega)]
/-- the reference's memory behind the begin of a tick -/
noncomputable def begR (R : Rm) : Rm := bgi R (nA_ R)
theorem hC_beg {R : Rm} {k : Nat} (h6 : 1 ≤ R 0 6) (hr : rA R) (hk : pw R k) : hR (begR R) k ↔ hC R k 0 := by
  have hw : ∀ j, wt (begR R) j ↔ wt R j ∧ ¬ frF R j := by
    intro j
    unfold begR
    rw [bgi_wt h6]
    exact ⟨fun z => ⟨z.1, fun w => z.2 ⟨wt_n hr j z.1, w⟩⟩, fun z => ⟨z.1, fun w => z.2 w.2⟩⟩
  have e4 : ∀ j, begR R 4 j = R 4 j := fun j => bgi_o (by decide) (by omega)
  have e5 : ∀ j, begR R 5 j = R 5 j := fun j => bgi_o (by decide) (by omega)
  have e6 : ∀ j, begR R 6 j = R 6 j := fun j => bgi_o (by decide) (by omega)
  have hcl : ∀ j, clR (begR R) j k ↔ clR R j k := fun j => by unfold clR; rw [e4, e4, e6, e6]
  constructor
  · rintro ⟨-, j, j1, j2, j3⟩
    obtain ⟨w1, w2⟩ := (hw j).mp j2
    refine ⟨j, j1, w1, ?_⟩
    rcases j3 with ⟨a, b⟩ | ⟨a, -⟩
    · rw [e4] at a
      rw [e5, e5] at b
      refine Or.inr ⟨b, a, Or.inr ?_⟩
      refine Classical.byContradiction fun no => w2 ⟨⟨w1, a⟩, fun i hi z => no ⟨i, hi, z.1, ?_⟩⟩
      rw [z.2, b]
    · exact Or.inl ((hcl j).mp a)
  · rintro ⟨j, j1, w1, j3⟩
    refine ⟨(hw k).mpr ⟨hk.1, fun w => frF_n w hk⟩, j, j1, ?_, ?_⟩
    · refine (hw j).mpr ⟨w1, fun w => ?_⟩
      rcases j3 with a | ⟨b, a, z | ⟨i, hi, z1, z2⟩⟩
      · exact a.1 w.1.2
      · exact absurd rfl z
      · exact w.2 i hi ⟨z1, by rw [z2, b]⟩
    · rcases j3 with a | ⟨b, a, -⟩
      · exact Or.inr ⟨(hcl j).mpr a, by rw [e4]; exact hk.2⟩
      · exact Or.inl ⟨by rw [e4]; exact a, by rw [e5, e5]; exact b⟩
/-- behind the begin both ways of saying 'held' are the same -/
theorem hC_beg2 {R : Rm} {k : Nat} (h6 : 1 ≤ R 0 6) (hr : rA R) (hk : pw R k) : hC (begR R) k 0 ↔ hC R k 0 := by
  have hw : ∀ j, wt (begR R) j ↔ wt R j ∧ ¬ frF R j := by
    intro j
    unfold begR
    rw [bgi_wt h6]
    exact ⟨fun z => ⟨z.1, fun w => z.2 ⟨wt_n hr j z.1, w⟩⟩, fun z => ⟨z.1, fun w => z.2 w.2⟩⟩
  have hp : ∀ j, pw (begR R) j ↔ pw R j := fun j => bgi_pw h6
  have e4 : ∀ j, begR R 4 j = R 4 j := fun j => bgi_o (by decide) (by omega)
  have e5 : ∀ j, begR R 5 j = R 5 j := fun j => bgi_o (by decide) (by omega)
  have e6 : ∀ j, begR R 6 j = R 6 j := fun j => bgi_o (by decide) (by omega)
  have hcl : ∀ j, clR (begR R) j k ↔ clR R j k := fun j => by unfold clR; rw [e4, e4, e6, e6]
  constructor
  · rintro ⟨j, j1, j2, j3⟩
    refine ⟨j, j1, ((hw j).mp j2).1, ?_⟩
    rcases j3 with a | ⟨b, a, z | ⟨i, hi, z1, z2⟩⟩
    · exact Or.inl ((hcl j).mp a)
    · exact absurd rfl z
    · rw [e5, e5] at b z2
      rw [e4] at a
      exact Or.inr ⟨b, a, Or.inr ⟨i, hi, (hp i).mp z1, z2⟩⟩
  · rintro ⟨j, j1, w1, j3⟩
    refine ⟨j, j1, (hw j).mpr ⟨w1, fun w => ?_⟩, ?_⟩
    · rcases j3 with a | ⟨b, a, z | ⟨i, hi, z1, z2⟩⟩
      · exact a.1 w.1.2
      · exact absurd rfl z
      · exact w.2 i hi ⟨z1, by rw [z2, b]⟩
    · rcases j3 with a | ⟨b, a, z | ⟨i, hi, z1, z2⟩⟩
      · exact Or.inl ((hcl j).mpr a)
      · exact absurd rfl z
      · refine Or.inr ⟨by rw [e5, e5]; exact b, by rw [e4]; exact a, Or.inr ⟨i, hi, (hp i).mpr z1, by rw [e5, e5]; exact z2⟩⟩
theorem begR_o {R : Rm} {a k : Nat} (h : a ≠ 10) (h' : ¬ (a = 0 ∧ (k = 7 ∨ k = 14))) : begR R a k = R a k := bgi_o h h'
theorem begR_a {R : Rm} {a : Nat} (h : a ≠ 10) (h' : a ≠ 0) : begR R a = R a := bgi_a h h'
theorem begR_n {R : Rm} : nA_ (begR R) = nA_ R := by unfold nA_; rw [begR_o (by decide) (by decide)]
theorem begR_rk {R : Rm} : rk (begR R) = rk R := by
  funext k
  unfold rk
  rw [begR_o (a := 0) (k := 4) (by decide) (by decide), begR_o (a := 0) (k := 5) (by decide) (by decide), begR_o (a := 0) (k := 25) (by decide) (by decide), begR_a (a := 2) (by decide) (by decide), begR_a (a := 6) (by decide) (by decide), begR_a (a := 12) (by decide) (by decide), begR_a (a := 5) (by decide) (by decide)]
theorem begR_ordN {R : Rm} (h6 : 1 ≤ R 0 6) : ∀ i : Nat, (i : Int) ≤ R 0 13 → ordN (begR R) i = ordN R i
  | 0, _ => rfl
  | i + 1, hi => by
    have ih := begR_ordN h6 i (by omega)
    unfold ordN
    have e : (begR R 10 i = 0 ∧ ¬ begR R 4 i = 4) ↔ (R 10 i = 0 ∧ ¬ R 4 i = 4) := by
      have := bgi_pw (i := nA_ R) (k := i) h6
      unfold pw wt at this
      rw [bgi_o (a := 0) (k := 13) (by decide) (by decide)] at this
      unfold begR
      constructor
      · intro z; have := this.mp ⟨⟨by omega, z.1⟩, z.2⟩; exact ⟨this.1.2, this.2⟩
      · intro z; have := this.mpr ⟨⟨by omega, z.1⟩, z.2⟩; exact ⟨this.1.2, this.2⟩
    rw [ih, begR_rk]
    by_cases z : R 10 i = 0 ∧ ¬ R 4 i = 4
    · rw [if_pos z, if_pos (e.mpr z)]
    · rw [if_neg z, if_neg (fun w => z (e.mp w))]
theorem begR_ord {R : Rm} (h6 : 1 ≤ R 0 6) (hr : rA R) : ord (begR R) = ord R := by
  unfold ord
  rw [begR_n]
  exact begR_ordN h6 _ (by have := hr.1; unfold nA_; omega)
