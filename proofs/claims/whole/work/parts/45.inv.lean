/-! ===== PURE PART: what holds between the class's memory and the reference's, between calls ===== -/
def bk (a : Int) : Int := bXor (Int.tmod (Int.tdiv a 16) 4) (Int.tmod (Int.tdiv a 64) 4)
theorem bk_all : ∀ a : Fin 1024, (0 ≤ bk (a.val : Int) ∧ bk (a.val : Int) < 4) ∧ Int.tmod (bXor (Int.tdiv (a.val : Int) 16) (Int.tdiv (a.val : Int) 64)) 4 = bk (a.val : Int) := by decide +kernel
theorem bk_b {a : Int} (h0 : 0 ≤ a) (h1 : a < 1024) : 0 ≤ bk a ∧ bk a < 4 := by
  have := (bk_all ⟨a.toNat, by omega⟩).1
  rwa [show ((⟨a.toNat, by omega⟩ : Fin 1024).val : Int) = a by simp; omega] at this
theorem bk_e {a : Int} (h : a = -2 ∨ (0 ≤ a ∧ a < 1024)) : Int.tmod (bXor (Int.tdiv a 16) (Int.tdiv a 64)) 4 = bk a := by
  rcases h with rfl | h
  · decide +kernel
  · have := (bk_all ⟨a.toNat, by omega⟩).2
    rwa [show ((⟨a.toNat, by omega⟩ : Fin 1024).val : Int) = a by simp; omega] at this
/-- how many Asks there are -/
def nA_ (R : Rm) : Nat := (R 0 13).toNat
/-- the class's cells and the reference's beside them -/
def jV (o : Nat) (V : Vt) : Prop := fX11 V o ∧ fX12 V (o + 42) ∧ o + 73 ≤ V.1 ∧ V.2.1 (o + 72) = 15 ∧ ∀ d, d < 8 → V.2.1 (o + 34 + d) = 7
/-- settings and counters -/
def jS (o : Nat) (S : Me) (R : Rm) : Prop := (S.1 o 6 = R 0 6 ∧ S.1 o 7 = R 0 2 ∧ S.1 o 8 = R 0 3 ∧ S.1 o 9 = R 0 7 ∧ S.1 o 10 = R 0 4 ∧ S.1 o 11 = R 0 5 ∧ S.1 o 12 = R 0 9 ∧ S.1 o 13 = R 0 8) ∧ ∀ r, r < 13 → S.1 (o + 1) r = R 1 r
/-- the reference's ring: the i-th latest command -/
def eR (R : Rm) (i : Nat) : Nat := ((R 0 26 - 1 - (i : Int)) % 40).toNat
def tkR (R : Rm) (i : Nat) : Int := R 13 (eR R i)
def whR (R : Rm) (i : Nat) : Int := R 14 (eR R i)
def bkR (R : Rm) (i : Nat) : Int := R 15 (eR R i)
def nR_ (R : Rm) : Nat := if R 0 26 ≤ 40 then (R 0 26).toNat else 40
/-- Past's entries are no less than LONG_AGO -/
def PL (S : Me) (p : Nat) : Prop := (∀ r is b : Int, 0 ≤ r → r < 13 → r ≠ 10 → 0 ≤ is → is < 5 → (is < 4 → 0 ≤ b ∧ b < 4) → -1000 ≤ cF S p r is b) ∧ ∀ j : Int, 0 ≤ j → j < 4 → -1000 ≤ f4 S p j
def jP (o : Nat) (S : Me) (R : Rm) : Prop := PI (cF S (o + 2)) (nR_ R) (tkR R) (whR R) (bkR R) (R 0 6 - 31) ∧ PO (f4 S (o + 2)) (nR_ R) (tkR R) (whR R) (R 0 6 - 31) ∧ S.1 (o + 2) 7 = R 0 10 ∧ PL S (o + 2)
def rG (R : Rm) : Prop := ∀ i, i < nR_ R → (0 ≤ whR R i ∧ whR R i < 5) ∧ (whR R i < 4 → 0 ≤ bkR R i ∧ bkR R i < 4) ∧ 1 ≤ tkR R i ∧ tkR R i ≤ R 0 6 - 1 - (i : Int)
/-- the log -/
def jL (o : Nat) (S : Me) (R : Rm) : Prop := S.1 (o + 10) 7 = R 0 30 ∧ S.1 (o + 10) 8 = R 0 37 ∧ ∀ i : Nat, (i : Int) < R 0 30 → S.1 (o + 10 + 1) i = R 16 i ∧ S.1 (o + 10 + 2) i = R 17 i ∧ S.1 (o + 10 + 3) i = R 18 i ∧ S.1 (o + 10 + 4) i = R 19 i ∧ S.1 (o + 10 + 5) i = R 20 i ∧ S.1 (o + 10 + 6) i = R 21 i
def rL (R : Rm) : Prop := 0 ≤ R 0 30 ∧ R 0 30 ≤ 400 ∧ ∀ i : Nat, (i : Int) < R 0 30 → (0 ≤ R 18 i ∧ R 18 i < 5) ∧ (R 18 i < 4 → 0 ≤ R 19 i ∧ R 19 i < 4) ∧ 1 ≤ R 17 i ∧ R 17 i ≤ 1000000
/-- bytes and open rows -/
def jM (o : Nat) (S : Me) (R : Rm) : Prop := (∀ a, a < 1024 → S.1 (o + 25 + 1) a = R 3 a) ∧ ∀ b, b < 4 → S.1 (o + 25 + 2) b = R 2 b
def rM (R : Rm) : Prop := (∀ a, a < 1024 → 0 ≤ R 3 a ∧ R 3 a ≤ 255) ∧ ∀ b, b < 4 → R 2 b = -2 ∨ (0 ≤ R 2 b ∧ R 2 b < 16)
/-- the Asks -/
def cA (o : Nat) (V : Vt) (S : Me) (c : Nat → Nat) (R : Rm) : Prop := ∀ i : Nat, (i : Int) < R 0 13 →
  (S.2 (o + 28 + 1) i = some (c i) ∧ o + 73 ≤ c i ∧ c i < V.1 ∧ isA (V.2.1 (c i)) ∧ kT (V.2.1 (c i)) = R 4 i) ∧
  (S.1 (c i) 0 = (i : Int) ∧ S.1 (c i) 1 = R 5 i ∧ S.1 (c i) 2 = R 6 i ∧ S.1 (c i) 3 = bk (R 6 i) ∧ S.1 (c i) 4 = Int.tdiv (R 6 i) 64 ∧ S.1 (c i) 5 = R 9 i) ∧
  (S.1 (c i) 6 = R 10 i ∧ S.1 (c i) 7 = R 11 i) ∧ (R 4 i = 1 ∨ R 4 i = 2 ∨ R 4 i = 3 → S.1 (c i) 11 = R 7 i) ∧ (R 4 i = 2 → S.1 (c i) 12 = R 8 i)
def rA (R : Rm) : Prop := (0 ≤ R 0 13 ∧ R 0 13 ≤ 400) ∧ (R 0 14 = cnt (wt R) (nA_ R) ∧ R 0 14 ≤ 12) ∧ ∀ i : Nat, (i : Int) < R 0 13 →
  (0 ≤ R 4 i ∧ R 4 i ≤ 4) ∧ (0 ≤ R 5 i ∧ R 5 i < 4) ∧ ((R 4 i = 4 ∧ R 6 i = -2) ∨ (¬ R 4 i = 4 ∧ 0 ≤ R 6 i ∧ R 6 i < 1024)) ∧ (0 ≤ R 7 i ∧ R 7 i ≤ 255 ∧ 0 ≤ R 8 i ∧ R 8 i ≤ 255) ∧ (R 4 i = 1 ∨ R 4 i = 3 → R 8 i = 255) ∧
  (1 ≤ R 9 i ∧ R 9 i ≤ R 0 6) ∧ (R 10 i = 0 ∨ (R 9 i ≤ R 10 i ∧ R 10 i ≤ R 0 6)) ∧ (¬ R 4 i = 0 → ¬ R 4 i = 3 → R 11 i = -2) ∧ (R 4 i = 0 ∨ R 4 i = 3 → ¬ R 10 i = 0 → 0 ≤ R 11 i)
/-- the oldest that is no fence, and the columns since it became that -/
def rO (R : Rm) : Prop := (R 0 24 = -1 ∧ (∀ k, ¬ pw R k) ∧ R 0 25 = 0) ∨ ∃ k : Nat, R 0 24 = (k : Int) ∧ pw R k ∧ ∀ j, j < k → ¬ pw R j
/-- the Queue -/
def jQ (o : Nat) (S : Me) (c : Nat → Nat) (R : Rm) : Prop := (S.1 (o + 28) 6 = R 0 13 ∧ S.1 (o + 28) 7 = R 0 14 ∧ S.1 (o + 28) 8 = cnt (fw R) (nA_ R) ∧ S.1 (o + 28) 9 - S.1 (o + 28) 10 = R 0 25) ∧ (∀ a, a < 4 → S.1 (o + 28 + 3) a = R 12 a) ∧ Cn S (o + 28) c (wt R) (nA_ R)
/-- the longest waits -/
def wD (R : Rm) (a : Nat) (k : Nat) : Prop := (k : Int) < R 0 13 ∧ R 5 k = (a : Int) ∧ ¬ R 4 k = 4 ∧ ¬ R 10 k = 0
def jW (o : Nat) (S : Me) (R : Rm) : Prop := ∀ a, a < 4 → (∀ k, wD R a k → R 10 k - R 9 k ≤ S.1 (o + 28 + 4) a) ∧ (S.1 (o + 28 + 4) a = -2 ∨ ∃ k, wD R a k ∧ R 10 k - R 9 k = S.1 (o + 28 + 4) a)
/-- the shelves -/
def jH (o : Nat) (V : Vt) (S : Me) (c : Nat → Nat) (R : Rm) : Prop := (∀ d, d < 8 → S.2 (o + 33) d = some (o + 34 + d)) ∧ (∀ d, d < 8 →
  (R 25 d = 0 ∧ S.2 (o + 34 + d) 0 = none ∧ S.2 (o + 34 + d) 1 = none) ∨
  (R 25 d = 1 ∧ ∃ k : Nat, R 27 d = (k : Int) ∧ (k : Int) < R 0 13 ∧ S.2 (o + 34 + d) 0 = some (c k) ∧ S.2 (o + 34 + d) 1 = none) ∨
  ((R 25 d = 3 ∨ R 25 d = 4) ∧ S.2 (o + 34 + d) 0 = none ∧ ∃ e : Nat, S.2 (o + 34 + d) 1 = some e ∧ o + 73 ≤ e ∧ e < V.1 ∧ V.2.1 e = 12 ∧ (V.2.2.1 e : Int) = R 26 d ∧ R 26 d ≤ 60 ∧ S.1 (o + 34 + d) 2 = (if R 25 d = 3 then 1 else 0) ∧ ∀ i : Nat, (i : Int) < R 26 d → S.1 e i = R 28 (60 * d + i))) ∧
  ∀ d d' e, d < 8 → d' < 8 → S.2 (o + 34 + d) 1 = some e → S.2 (o + 34 + d') 1 = some e → d = d'
/-- settings are in their bounds -/
def rS (R : Rm) : Prop := (∀ r, r < 13 → 1 ≤ R 1 r ∧ R 1 r ≤ 30) ∧ (R 0 2 = 0 ∨ (20 ≤ R 0 2 ∧ R 0 2 ≤ 400)) ∧ (1 ≤ R 0 3 ∧ R 0 3 ≤ 8) ∧ (0 ≤ R 0 4 ∧ R 0 4 ≤ 2) ∧ (1 ≤ R 0 5 ∧ R 0 5 ≤ 20)
/-- what grows is below the open tick, that one at most n -/
def gB (o : Nat) (S : Me) (R : Rm) (n : Int) : Prop := (1 ≤ R 0 6 ∧ R 0 6 ≤ n ∧ n ≤ 300000) ∧ (0 ≤ R 0 7 ∧ R 0 7 ≤ R 0 6) ∧ (0 ≤ R 0 8 ∧ R 0 8 < R 0 6) ∧ (0 ≤ R 0 9 ∧ R 0 9 < R 0 6) ∧ (0 ≤ R 0 10 ∧ R 0 10 < R 0 6) ∧ (0 ≤ R 0 26 ∧ R 0 26 < R 0 6) ∧ (0 ≤ S.1 (o + 28) 10 ∧ S.1 (o + 28) 10 ≤ S.1 (o + 28) 9 ∧ S.1 (o + 28) 9 < R 0 6) ∧ ∀ a, a < 4 → 0 ≤ R 12 a ∧ R 12 a < R 0 6
/-- all of it but the bounds of what grows -/
def jI (o : Nat) (V : Vt) (S : Me) (c : Nat → Nat) (R : Rm) : Prop := jV o V ∧ jS o S R ∧ jP o S R ∧ rG R ∧ jL o S R ∧ rL R ∧ jM o S R ∧ rM R ∧ cA o V S c R ∧ rA R ∧ rO R ∧ jQ o S c R ∧ jW o S R ∧ jH o V S c R ∧ rS R
/-- the invariant of the law's loop -/
def jJ (o : Nat) (V : Vt) (S : Me) (n : Int) : Prop := ∃ c : Nat → Nat, jI o V S c (rf (o + 42) S) ∧ gB o S (rf (o + 42) S) n ∧ rf (o + 42) S 0 7 < rf (o + 42) S 0 6
theorem nA_i {R : Rm} (h : rA R) (i : Nat) : i < nA_ R ↔ (i : Int) < R 0 13 := by
  have := h.1
  unfold nA_
  omega
theorem wt_n {R : Rm} (h : rA R) (i : Nat) (hi : wt R i) : i < nA_ R := (nA_i h i).mpr hi.1
theorem cA_inj {o : Nat} {V : Vt} {S : Me} {c : Nat → Nat} {R : Rm} (h : cA o V S c R) (hr : rA R) : ∀ i k, i < nA_ R → k < nA_ R → c i = c k → i = k := by
  intro i k hi hk e
  have h1 := (h i ((nA_i hr i).mp hi)).2.1.1
  have h2 := (h k ((nA_i hr k).mp hk)).2.1.1
  rw [e, h2] at h1
  omega
theorem cA_aK {o : Nat} {V : Vt} {S : Me} {c : Nat → Nat} {R : Rm} (h : cA o V S c R) (hr : rA R) : aK V S c R (nA_ R) := ⟨cA_inj h hr, fun i hi => by
  obtain ⟨⟨a1, a2, a3, a4, a5⟩, ⟨b1, b2, b3, -⟩, -⟩ := h i ((nA_i hr i).mp hi)
  have := (hr.2.2 i ((nA_i hr i).mp hi)).2.2.1
  exact ⟨a4, a5, b2, b3, by omega⟩⟩
/-- rank and behind of Asks may have changed, nothing else -/
def fB (c : Nat → Nat) (n : Nat) (S S' : Me) : Prop := (∀ a k, ((∀ i, i < n → a ≠ c i) ∨ k ≠ 10) → S'.1 a k = S.1 a k) ∧ ∀ a k, ((∀ i, i < n → a ≠ c i) ∨ k ≠ 9) → S'.2 a k = S.2 a k
theorem fB_r {c : Nat → Nat} {n : Nat} {S : Me} : fB c n S S := ⟨fun _ _ _ => rfl, fun _ _ _ => rfl⟩
theorem fB_t {c : Nat → Nat} {n : Nat} {S S1 S2 : Me} (h : fB c n S S1) (h' : fB c n S1 S2) : fB c n S S2 := ⟨fun a k hk => (h'.1 a k hk).trans (h.1 a k hk), fun a k hk => (h'.2 a k hk).trans (h.2 a k hk)⟩
theorem fB_1 {c : Nat → Nat} {n : Nat} {S S' : Me} (h : fB c n S S') {a : Nat} (ha : ∀ i, i < n → a ≠ c i) : S'.1 a = S.1 a := funext fun k => h.1 a k (Or.inl ha)
theorem fB_2 {c : Nat → Nat} {n : Nat} {S S' : Me} (h : fB c n S S') {a : Nat} (ha : ∀ i, i < n → a ≠ c i) : S'.2 a = S.2 a := funext fun k => h.2 a k (Or.inl ha)
theorem cA_lo {o : Nat} {V : Vt} {S : Me} {c : Nat → Nat} {R : Rm} (h : cA o V S c R) (hr : rA R) {a : Nat} (ha : a < o + 73) : ∀ i, i < nA_ R → a ≠ c i := by
  intro i hi e
  have := (h i ((nA_i hr i).mp hi)).1.2.1
  omega
theorem cA_fB {o : Nat} {V : Vt} {S S' : Me} {c : Nat → Nat} {R : Rm} (h : cA o V S c R) (hr : rA R) (hb : fB c (nA_ R) S S') : cA o V S' c R := by
  intro i hi
  have g := h i hi
  have e : ∀ k, k ≠ 10 → S'.1 (c i) k = S.1 (c i) k := fun k hk => hb.1 _ _ (Or.inr hk)
  rw [e 0 (by decide), e 1 (by decide), e 2 (by decide), e 3 (by decide), e 4 (by decide), e 5 (by decide), e 6 (by decide), e 7 (by decide), e 11 (by decide), e 12 (by decide), fB_2 hb (cA_lo h hr (by omega))]
  exact g
theorem Cn_fB {S S' : Me} {u : Nat} {c : Nat → Nat} {w : Nat → Prop} {n m : Nat} (h : Cn S u c w n) (hb : fB c m S S') : Cn S' u c w n := by
  unfold Cn
  rw [hb.2 u 4 (Or.inr (by decide)), hb.2 u 5 (Or.inr (by decide))]
  refine ⟨h.1, fun i hi => ?_, h.2.2⟩
  rw [hb.2 _ 8 (Or.inr (by decide))]
  exact h.2.1 i hi
