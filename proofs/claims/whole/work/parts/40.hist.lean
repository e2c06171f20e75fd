/-! ===== PURE PART: Past against a history of commands ===== -/
/-- rule by rule Past holds the latest tick of the history (n commands; the i-th latest is (tk i, wh i, bk i)), or one no later than lo -/
def PI (cf : Int → Int → Int → Int) (n : Nat) (tk wh bk : Nat → Int) (lo : Int) : Prop := ∀ r is b : Int, 0 ≤ r → r < 13 → r ≠ 10 → 0 ≤ is → is < 5 → (is < 4 → 0 ≤ b ∧ b < 4) →
  (∀ i, i < n → hD r (wh i) (bk i) is b → tk i ≤ cf r is b) ∧ (cf r is b ≤ lo ∨ ∃ i, i < n ∧ hD r (wh i) (bk i) is b ∧ tk i = cf r is b)
/-- how many of the i latest are opens -/
def opn (wh : Nat → Int) : Nat → Int
  | 0 => 0
  | i + 1 => opn wh i + (if wh i = 0 then 1 else 0)
/-- f4 j: the tick of the j-th latest open, j below 4 -/
def PO (f4 : Int → Int) (n : Nat) (tk wh : Nat → Int) (lo : Int) : Prop := ∀ j : Int, 0 ≤ j → j < 4 →
  (∀ i, i < n → wh i = 0 → opn wh i = j → tk i = f4 j) ∧ (f4 j ≤ lo ∨ ∃ i, i < n ∧ wh i = 0 ∧ opn wh i = j ∧ tk i = f4 j)
theorem opn_b (wh : Nat → Int) : ∀ i : Nat, 0 ≤ opn wh i ∧ opn wh i ≤ (i : Int)
  | 0 => by simp [opn]
  | i + 1 => by
    have h := opn_b wh i
    simp only [opn]
    split <;> omega
theorem opn_congr {wh wh' : Nat → Int} : ∀ i : Nat, (∀ j, j < i → wh' j = wh j) → opn wh' i = opn wh i
  | 0, _ => rfl
  | i + 1, h => by
    simp only [opn]
    rw [opn_congr i (fun j hj => h j (by omega)), h i (by omega)]
theorem opn_push {wh wh' : Nat → Int} : ∀ i : Nat, (∀ j, j < i → wh' (j + 1) = wh j) → opn wh' (i + 1) = opn wh i + (if wh' 0 = 0 then 1 else 0)
  | 0, _ => by simp [opn]
  | i + 1, h => by
    have e := opn_push i (fun j hj => h j (by omega))
    rw [opn, e, h i (by omega)]
    simp only [opn]
    omega
theorem PI_push {cf cf' : Int → Int → Int → Int} {n n' : Nat} {tk wh bk tk' wh' bk' : Nat → Int} {lo lo' t cm bb : Int} (h : PI cf n tk wh bk lo)
    (hc : ∀ r is b : Int, 0 ≤ r → r < 13 → r ≠ 10 → 0 ≤ is → is < 5 → (is < 4 → 0 ≤ b ∧ b < 4) → (hD r cm bb is b → cf' r is b = t) ∧ (¬ hD r cm bb is b → cf' r is b = cf r is b))
    (h0 : tk' 0 = t ∧ wh' 0 = cm ∧ bk' 0 = bb) (hs : ∀ i, i + 1 < n' → tk' (i + 1) = tk i ∧ wh' (i + 1) = wh i ∧ bk' (i + 1) = bk i) (hn : n' ≤ n + 1) (hn0 : 0 < n') (hl : lo ≤ lo') (ht : ∀ i, i < n → tk i ≤ t) (hd : ∀ i, i < n → ¬ i + 1 < n' → tk i ≤ lo') : PI cf' n' tk' wh' bk' lo' := by
  intro r is b r0 r1 r2 s0 s1 hb
  obtain ⟨a1, a2⟩ := h r is b r0 r1 r2 s0 s1 hb
  obtain ⟨c1, c2⟩ := hc r is b r0 r1 r2 s0 s1 hb
  constructor
  · intro i hi hh
    cases i with
    | zero =>
      rw [h0.2.1, h0.2.2] at hh
      rw [h0.1, c1 hh]
      exact Int.le_refl _
    | succ i =>
      obtain ⟨e1, e2, e3⟩ := hs i hi
      rw [e2, e3] at hh
      rw [e1]
      have g := a1 i (by omega) hh
      by_cases q : hD r cm bb is b
      · rw [c1 q]; exact ht i (by omega)
      · rw [c2 q]; exact g
  · by_cases q : hD r cm bb is b
    · exact Or.inr ⟨0, hn0, by rw [h0.2.1, h0.2.2]; exact q, by rw [h0.1, c1 q]⟩
    · rw [c2 q]
      rcases a2 with a2 | ⟨i, hi, hh, e⟩
      · exact Or.inl (by omega)
      · by_cases g : i + 1 < n'
        · obtain ⟨e1, e2, e3⟩ := hs i g
          exact Or.inr ⟨i + 1, g, by rw [e2, e3]; exact hh, by rw [e1]; exact e⟩
        · exact Or.inl (by rw [← e]; exact hd i hi g)
theorem PO_push {f4 f4' : Int → Int} {n n' : Nat} {tk wh tk' wh' : Nat → Int} {lo lo' t cm : Int} (h : PO f4 n tk wh lo) (hc0 : cm = 0 → f4' 0 = t ∧ ∀ j : Int, 0 ≤ j → j < 3 → f4' (j + 1) = f4 j) (hc1 : ¬ cm = 0 → ∀ j : Int, 0 ≤ j → j < 4 → f4' j = f4 j)
    (h0 : tk' 0 = t ∧ wh' 0 = cm) (hs : ∀ i, i + 1 < n' → tk' (i + 1) = tk i ∧ wh' (i + 1) = wh i) (hn : n' ≤ n + 1) (hn0 : 0 < n') (hl : lo ≤ lo') (hd : ∀ i, i < n → ¬ i + 1 < n' → tk i ≤ lo') : PO f4' n' tk' wh' lo' := by
  intro j j0 j1
  have ho : ∀ i, i + 1 < n' → opn wh' (i + 1) = opn wh i + (if cm = 0 then 1 else 0) := by
    intro i hi
    have := opn_push (wh := wh) (wh' := wh') i (fun k hk => (hs k (by omega)).2)
    rw [h0.2] at this
    exact this
  by_cases q : cm = 0
  · obtain ⟨d0, d1⟩ := hc0 q
    simp only [if_pos q] at ho
    by_cases e0 : j = 0
    · subst e0
      refine ⟨fun i hi hw hq => ?_, Or.inr ⟨0, hn0, by rw [h0.2]; exact q, rfl, by rw [h0.1, d0]⟩⟩
      cases i with
      | zero => rw [h0.1, d0]
      | succ i =>
        have := ho i hi
        have b := opn_b wh i
        omega
    · obtain ⟨a1, a2⟩ := h (j - 1) (by omega) (by omega)
      have d := d1 (j - 1) (by omega) (by omega)
      rw [show j - 1 + 1 = j by omega] at d
      rw [d]
      refine ⟨fun i hi hw hq => ?_, ?_⟩
      · cases i with
        | zero => exact absurd hq.symm e0
        | succ i =>
          obtain ⟨e1, e2⟩ := hs i hi
          rw [e1]
          have := ho i hi
          exact a1 i (by omega) (by rw [← e2]; exact hw) (by omega)
      · rcases a2 with a2 | ⟨i, hi, hw, hq, e⟩
        · exact Or.inl (by omega)
        · by_cases g : i + 1 < n'
          · obtain ⟨e1, e2⟩ := hs i g
            have := ho i g
            exact Or.inr ⟨i + 1, g, by rw [e2]; exact hw, by omega, by rw [e1]; exact e⟩
          · exact Or.inl (by rw [← e]; exact hd i hi g)
  · simp only [if_neg q] at ho
    obtain ⟨a1, a2⟩ := h j j0 j1
    rw [hc1 q j j0 j1]
    refine ⟨fun i hi hw hq => ?_, ?_⟩
    · cases i with
      | zero => rw [h0.2] at hw; exact absurd hw q
      | succ i =>
        obtain ⟨e1, e2⟩ := hs i hi
        have := ho i hi
        rw [e1]
        exact a1 i (by omega) (by rw [← e2]; exact hw) (by omega)
    · rcases a2 with a2 | ⟨i, hi, hw, hq, e⟩
      · exact Or.inl (by omega)
      · by_cases g : i + 1 < n'
        · obtain ⟨e1, e2⟩ := hs i g
          have := ho i g
          exact Or.inr ⟨i + 1, g, by rw [e2]; exact hw, by omega, by rw [e1]; exact e⟩
        · exact Or.inl (by rw [← e]; exact hd i hi g)
/-- f4 of a Past at p -/
def f4 (S : Me) (p : Nat) (j : Int) : Int := S.1 (p + 7) ((S.1 p 7 - 1 - j) % 4).toNat
theorem cF_10 (S : Me) (p : Nat) (is b : Int) : cF S p 10 is b = if is = 0 then f4 S p 3 else -1000 := by
  simp only [cF, f4]
  rw [show (S.1 p 7 - 1 - 3) % 4 = S.1 p 7 % 4 by omega]
  rfl
/-- leastTick's bound at t and the history's rules say the same, from lo + 31 on -/
theorem fit_iff {cf : Int → Int → Int → Int} {fo : Int → Int} {n : Nat} {tk wh bk : Nat → Int} {lo t is b : Int} {tm : Nat → Int} (h : PI cf n tk wh bk lo) (h' : PO fo n tk wh lo) (hc : cf 10 is b = if is = 0 then fo 3 else -1000) (htm : ∀ r : Nat, r < 13 → 1 ≤ tm r ∧ tm r ≤ 30) (ht : lo + 30 ≤ t) (ht1 : 1 ≤ t) (s0 : 0 ≤ is) (s1 : is < 5) (hb : is < 4 → 0 ≤ b ∧ b < 4) :
    (∀ r : Int, 0 ≤ r → r < 13 → cf r is b + tm r.toNat ≤ t) ↔ ∀ i, i < n → (∀ r : Int, 0 ≤ r → r < 13 → r ≠ 10 → hD r (wh i) (bk i) is b → tm r.toNat ≤ t - tk i) ∧ (wh i = 0 → is = 0 → opn wh i = 3 → tm 10 ≤ t - tk i) := by
  constructor
  · intro g i hi
    refine ⟨fun r r0 r1 r2 hd => ?_, fun hw e3 ho => ?_⟩
    · have a := (h r is b r0 r1 r2 s0 s1 hb).1 i hi hd
      have := g r r0 r1
      omega
    · have a := (h' 3 (by omega) (by omega)).1 i hi hw ho
      have := g 10 (by omega) (by omega)
      rw [hc, if_pos e3] at this
      have e : (10 : Int).toNat = 10 := rfl
      rw [e] at this
      omega
  · intro g r r0 r1
    have hm := htm r.toNat (by omega)
    by_cases e : r = 10
    · subst e
      have e : (10 : Int).toNat = 10 := rfl
      rw [e] at hm ⊢
      rw [hc]
      by_cases e3 : is = 0
      · rw [if_pos e3]
        rcases (h' 3 (by omega) (by omega)).2 with a | ⟨i, hi, hw, ho, q⟩
        · omega
        · have := (g i hi).2 hw e3 ho
          omega
      · rw [if_neg e3]; omega
    · rcases (h r is b r0 r1 e s0 s1 hb).2 with a | ⟨i, hi, hd, q⟩
      · omega
      · have := (g i hi).1 r r0 r1 e hd
        omega
