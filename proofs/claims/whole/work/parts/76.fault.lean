/-! ===== PURE PART: fill, forget; what breaks a rule in the log; CommandLog.findFault ===== -/
theorem p_fill {V : Vt} {z L : Nat} {x : Int} {S : Me} {Q : Me → Prop} (ht : V.2.1 z = 12) (hL : V.2.2.1 z = L) (h4 : L ≤ 1024) (k : ∀ S', S'.2 = S.2 → (∀ b, b ≠ z → S'.1 b = S.1 b) → (∀ j, j < L → S'.1 z j = x) → Q S') : PT_J7_fill_53178 V (some z) x S Q := by
  refine ⟨z, rfl, ht, L + 1, ?_⟩
  rw [hL]
  have key : ∀ (m i : Nat) (S1 : Me), i + m = L → S1.2 = S.2 → (∀ b, b ≠ z → S1.1 b = S.1 b) → (∀ j, j < i → S1.1 z j = x) → B_J7_fill_53178_5 V (some z) x Q (m + 1) (i : Int) (L : Int) S1 := by
    intro m
    induction m with
    | zero =>
      intro i S1 e g1 g2 g3
      unfold B_J7_fill_53178_5
      exact ⟨fun _ => k S1 g1 g2 (fun j hj => g3 j (by omega)), fun w => by omega⟩
    | succ m ih =>
      intro i S1 e g1 g2 g3
      unfold B_J7_fill_53178_5
      refine ⟨fun w => by omega, fun _ => ⟨z, rfl, ht, ⟨by omega, by rw [hL]; omega⟩, fun S4 e4 => ⟨by unfold rng; omega, ?_⟩⟩⟩
      rw [tn] at e4
      have := ih (i + 1) S4 (by omega) (by rw [e4, sI_2, g1]) (fun b hb => by rw [e4, sI_na hb, g2 b hb]) (fun j hj => by
        rw [e4, sI_at]
        by_cases w : j = i
        · rw [if_pos w]
        · rw [if_neg w, g3 j (by omega)])
      exact this
  exact key L 0 S (by omega) rfl (fun _ _ => rfl) (fun j hj => by omega)
theorem p_forget {V : Vt} {p : Nat} {S : Me} {Q : Me → Prop} (hX : fX5 V p) (k : ∀ S', S'.2 = S.2 → (∀ b, b < p ∨ p + 7 < b → S'.1 b = S.1 b) → S'.1 p 7 = 0 → (∀ r is b : Int, 0 ≤ r → r < 13 → r ≠ 10 → 0 ≤ is → is < 5 → (is < 4 → 0 ≤ b ∧ b < 4) → cF S' p r is b = -1000) → (∀ j : Int, f4 S' p j = -1000) → Q S') : PT_X5_forget V p S Q := by
  unfold PT_X5_forget
  refine p_fill (fX5_opens_t hX) (fX5_opens_n hX) (by decide) (fun S1 a1 a2 a3 => p_fill (fX5_opensBeside_t hX) (fX5_opensBeside_n hX) (by decide) (fun S2 b1 b2 b3 => p_fill (fX5_shuts_t hX) (fX5_shuts_n hX) (by decide) (fun S3 c1 c2 c3 => p_fill (fX5_reads_t hX) (fX5_reads_n hX) (by decide) (fun S4 d1 d2 d3 => p_fill (fX5_writes_t hX) (fX5_writes_n hX) (by decide) (fun S5 e1 e2 e3 => p_fill (fX5_columnsOfGroups_t hX) (fX5_columnsOfGroups_n hX) (by decide) (fun S6 f1 f2 f3 => p_fill (fX5_fourOpens_t hX) (fX5_fourOpens_n hX) (by decide) (fun S7 g1 g2 g3 S8 u8 S9 u9 S10 u10 S11 u11 S12 u12 => ?_)))))))
  have o12 : ∀ b, b ≠ p → S12.1 b = S7.1 b := fun b hb => by rw [u12, sI_na hb, u11, sI_na hb, u10, sI_na hb, u9, sI_na hb, u8, sI_na hb]
  have v1 : ∀ j, j < 4 → S12.1 (p + 1) j = -1000 := fun j hj => by rw [o12 _ (by omega), g2 _ (by omega), f2 _ (by omega), e2 _ (by omega), d2 _ (by omega), c2 _ (by omega), b2 _ (by omega), a3 j hj]
  have v2 : ∀ j, j < 4 → S12.1 (p + 2) j = -1000 := fun j hj => by rw [o12 _ (by omega), g2 _ (by omega), f2 _ (by omega), e2 _ (by omega), d2 _ (by omega), c2 _ (by omega), b3 j hj]
  have v3 : ∀ j, j < 4 → S12.1 (p + 3) j = -1000 := fun j hj => by rw [o12 _ (by omega), g2 _ (by omega), f2 _ (by omega), e2 _ (by omega), d2 _ (by omega), c3 j hj]
  have v4 : ∀ j, j < 4 → S12.1 (p + 4) j = -1000 := fun j hj => by rw [o12 _ (by omega), g2 _ (by omega), f2 _ (by omega), e2 _ (by omega), d3 j hj]
  have v5 : ∀ j, j < 4 → S12.1 (p + 5) j = -1000 := fun j hj => by rw [o12 _ (by omega), g2 _ (by omega), f2 _ (by omega), e3 j hj]
  have v6 : ∀ j, j < 2 → S12.1 (p + 6) j = -1000 := fun j hj => by rw [o12 _ (by omega), g2 _ (by omega), f3 j hj]
  have v7 : ∀ j, j < 4 → S12.1 (p + 7) j = -1000 := fun j hj => by rw [o12 _ (by omega), g3 j hj]
  have w8 : S12.1 p 8 = -1000 := by rw [u12, sI_ne (by omega), u11, sI_ne (by omega), u10, sI_ne (by omega), u9, sI_eq]
  have w9 : S12.1 p 9 = -1000 := by rw [u12, sI_ne (by omega), u11, sI_ne (by omega), u10, sI_eq]
  have w10 : S12.1 p 10 = -1000 := by rw [u12, sI_ne (by omega), u11, sI_eq]
  have w11 : S12.1 p 11 = -1000 := by rw [u12, sI_eq]
  refine k S12 ?_ (fun b hb => ?_) ?_ (fun r is b r0 r1 r2 i0 i1 hb => ?_) (fun j => ?_)
  · rw [u12, sI_2, u11, sI_2, u10, sI_2, u9, sI_2, u8, sI_2, g1, f1, e1, d1, c1, b1, a1]
  · rw [o12 _ (by omega), g2 _ (by omega), f2 _ (by omega), e2 _ (by omega), d2 _ (by omega), c2 _ (by omega), b2 _ (by omega), a2 _ (by omega)]
  · rw [u12, sI_ne (by omega), u11, sI_ne (by omega), u10, sI_ne (by omega), u9, sI_ne (by omega), u8, sI_eq]
  · have z1 : ∀ (C : Prop) [Decidable C], (C → 0 ≤ b ∧ b < 4) → (if C then S12.1 (p + 1) b.toNat else -1000) = -1000 := fun C _ h => by split; exact v1 _ (by rename_i y; have := h y; omega); rfl
    have hr' : r = 0 ∨ r = 1 ∨ r = 2 ∨ r = 3 ∨ r = 4 ∨ r = 5 ∨ r = 6 ∨ r = 7 ∨ r = 8 ∨ r = 9 ∨ r = 11 ∨ r = 12 := by omega
    rcases hr' with rfl | rfl | rfl | rfl | rfl | rfl | rfl | rfl | rfl | rfl | rfl | rfl
    · have := z1 (is = 2 ∨ is = 3) (fun w => hb (by omega)); simpa [cF] using this
    · have := z1 (is = 1) (fun w => hb (by omega)); simpa [cF] using this
    · simp [cF]; intro w; exact v3 _ (by have := hb (by omega); omega)
    · simp [cF]; intro w; exact v4 _ (by have := hb (by omega); omega)
    · simp [cF]; intro w; exact v5 _ (by have := hb (by omega); omega)
    · simp [cF]; intro w; exact v6 _ (by have := hb (by omega); omega)
    · simp [cF]; intro w; exact v6 _ (by have := hb (by omega); omega)
    · simp [cF]; intro w; exact w9
    · simp [cF]; intro w; exact w10
    · simp [cF]; intro w; exact v2 _ (by have := hb (by omega); omega)
    · simp [cF]; exact w11
    · simp [cF]; intro w; exact w8
  · unfold f4
    exact v7 _ (by omega)
/-- the log before the i-th command, latest first -/
def tkL (R : Rm) (i j : Nat) : Int := R 17 (i - 1 - j)
def whL (R : Rm) (i j : Nat) : Int := R 18 (i - 1 - j)
def bkL (R : Rm) (i j : Nat) : Int := R 19 (i - 1 - j)
/-- rule r is broken by the i-th command and one of the m before it -/
def brN (R : Rm) (i m : Nat) (r : Int) : Prop := (r ≠ 10 ∧ ∃ j, j < m ∧ hD r (whL R i j) (bkL R i j) (R 18 i) (R 19 i) ∧ R 17 i - tkL R i j < R 1 r.toNat) ∨ (r = 10 ∧ ∃ j, j < m ∧ whL R i j = 0 ∧ R 18 i = 0 ∧ opn (whL R i) j = 3 ∧ R 17 i - tkL R i j < R 1 10)
/-- y is the least rule of P, or -2 -/
def lsP (P : Int → Prop) (y : Int) : Prop := (y = -2 ∧ ∀ r, 0 ≤ r → r < 13 → ¬ P r) ∨ (0 ≤ y ∧ y < 13 ∧ P y ∧ ∀ r, 0 ≤ r → r < y → ¬ P r)
theorem lsU {P : Int → Prop} {y y' : Int} (h : lsP P y) (h' : lsP P y') : y = y' := by
  rcases h with ⟨a, b⟩ | ⟨a, b, c, d⟩ <;> rcases h' with ⟨a', b'⟩ | ⟨a', b', c', d'⟩
  · rw [a, a']
  · exact absurd c' (b y' a' b')
  · exact absurd c (b' y a b)
  · rcases Int.lt_trichotomy y y' with z | z | z
    · exact absurd c (d' y a z)
    · exact z
    · exact absurd c' (d y' a' z)
theorem lsC {P P' : Int → Prop} {y : Int} (h : lsP P y) (hp : ∀ r, 0 ≤ r → r < 13 → (P r ↔ P' r)) : lsP P' y := by
  rcases h with ⟨a, b⟩ | ⟨a, b, c, d⟩
  · exact Or.inl ⟨a, fun r r0 r1 w => b r r0 r1 ((hp r r0 r1).mpr w)⟩
  · exact Or.inr ⟨a, b, (hp y a b).mp c, fun r r0 r1 w => d r r0 r1 ((hp r r0 (by omega)).mpr w)⟩
theorem lsI {P P' : Int → Prop} {y r0 : Int} (h : lsP P y) (h0 : 0 ≤ r0 ∧ r0 < 13) (hp : ∀ r, 0 ≤ r → r < 13 → (P' r ↔ P r ∨ r = r0)) : (y < 0 → lsP P' r0) ∧ (¬ y < 0 → ¬ y ≤ r0 → lsP P' r0) ∧ (¬ y < 0 → y ≤ r0 → lsP P' y) := by
  refine ⟨fun z => ?_, fun z z2 => ?_, fun z z2 => ?_⟩
  · rcases h with ⟨a, b⟩ | ⟨a, b, c, d⟩
    · refine Or.inr ⟨h0.1, h0.2, (hp r0 h0.1 h0.2).mpr (Or.inr rfl), fun r q0 q1 w => ?_⟩
      rcases (hp r q0 (by omega)).mp w with v | v
      · exact b r q0 (by omega) v
      · omega
    · omega
  · rcases h with ⟨a, b⟩ | ⟨a, b, c, d⟩
    · omega
    · refine Or.inr ⟨h0.1, h0.2, (hp r0 h0.1 h0.2).mpr (Or.inr rfl), fun r q0 q1 w => ?_⟩
      rcases (hp r q0 (by omega)).mp w with v | v
      · exact d r q0 (by omega) v
      · omega
  · rcases h with ⟨a, b⟩ | ⟨a, b, c, d⟩
    · omega
    · refine Or.inr ⟨a, b, (hp y a b).mpr (Or.inl c), fun r q0 q1 w => ?_⟩
      rcases (hp r q0 (by omega)).mp w with v | v
      · exact d r q0 q1 v
      · omega
def gdL (R : Rm) (i : Nat) : Prop := (∀ r, 0 ≤ r → r < 13 → ¬ brN R i i r) ∧ (i = 0 ∨ R 17 (i - 1) < R 17 i)
/-- the answer of check, and the rule that it keeps -/
def ckR (R : Rm) (r br : Int) : Prop := ((∀ i : Nat, (i : Int) < R 0 30 → gdL R i) ∧ r = -2 ∧ br = -2) ∨ ∃ i : Nat, (i : Int) < R 0 30 ∧ (∀ i' : Nat, i' < i → gdL R i') ∧ ¬ gdL R i ∧ r = (i : Int) ∧ ∃ y, lsP (brN R i i) y ∧ br = if y < 0 then 13 else y
theorem ckR_u {R : Rm} {r br r' br' : Int} (h : ckR R r br) (h' : ckR R r' br') : r = r' ∧ br = br' := by
  rcases h with ⟨a, b, c⟩ | ⟨i, a, b, c, d, y, e, f⟩ <;> rcases h' with ⟨a', b', c'⟩ | ⟨i', a', b', c', d', y', e', f'⟩
  · exact ⟨b.trans b'.symm, c.trans c'.symm⟩
  · exact absurd (a i' a') c'
  · exact absurd (a' i a) c
  · have : i = i' := by
      rcases Nat.lt_trichotomy i i' with z | z | z
      · exact absurd (b' i z) c
      · exact z
      · exact absurd (b i' z) c'
    subst this
    have ey := lsU e e'
    subst ey
    exact ⟨d.trans d'.symm, f.trans f'.symm⟩
/-- rule by rule: Past's bound and the history say the same -/
theorem rul_iff {cf : Int → Int → Int → Int} {fo : Int → Int} {R : Rm} {i : Nat} (h : PI cf i (tkL R i) (whL R i) (bkL R i) (-1000)) (h' : PO fo i (tkL R i) (whL R i) (-1000)) (hc : cf 10 (R 18 i) (R 19 i) = if R 18 i = 0 then fo 3 else -1000) (htm : ∀ r : Nat, r < 13 → 1 ≤ R 1 r ∧ R 1 r ≤ 30) (h1 : 1 ≤ R 17 i) (s0 : 0 ≤ R 18 i) (s1 : R 18 i < 5) (hb : R 18 i < 4 → 0 ≤ R 19 i ∧ R 19 i < 4) (r : Int) (r0 : 0 ≤ r) (r1 : r < 13) : R 17 i < cf r (R 18 i) (R 19 i) + R 1 r.toNat ↔ brN R i i r := by
  have ht := htm r.toNat (by omega)
  by_cases e : r = 10
  · subst e
    have e10 : (10 : Int).toNat = 10 := rfl
    rw [e10] at ht ⊢
    rw [hc]
    obtain ⟨a, b⟩ := h' 3 (by omega) (by omega)
    constructor
    · intro w
      split at w
      · rename_i e3
        rcases b with b | ⟨j, j1, j2, j3, j4⟩
        · omega
        · exact Or.inr ⟨rfl, j, j1, j2, e3, j3, by omega⟩
      · omega
    · rintro (⟨w, -⟩ | ⟨-, j, j1, j2, j3, j4, j5⟩)
      · exact absurd rfl w
      · rw [if_pos j3, ← a j j1 j2 j4]
        omega
  · obtain ⟨a, b⟩ := h r (R 18 i) (R 19 i) r0 r1 e s0 s1 hb
    constructor
    · intro w
      rcases b with b | ⟨j, j1, j2, j3⟩
      · omega
      · exact Or.inl ⟨e, j, j1, j2, by omega⟩
    · rintro (⟨-, j, j1, j2, j3⟩ | ⟨w, -⟩)
      · have := a j j1 j2
        omega
      · exact absurd w e
theorem p_fault {o : Nat} {V : Vt} {S : Me} {c : Nat → Nat} {R : Rm} {n : Int} {Q : Int → Me → Prop} (hI : jI o V S c R) (hg : gB o S R n) (k : ∀ (r br : Int) (S' : Me), ckR R r br → S'.2 = S.2 → (∀ b, b < o + 17 ∨ o + 24 < b → b ≠ o + 10 → S'.1 b = S.1 b) → (∀ j, j ≠ 8 → S'.1 (o + 10) j = S.1 (o + 10) j) → S'.1 (o + 10) 8 = br → Q r S') : PT_X1_findFault V (o + 10) (some (o + 1)) S Q := by
  obtain ⟨hV, hS, hP, hG, hL, hrL, hM, hrM, hA, hrA, hrO, hQ, hW, hH, hs⟩ := hI
  have hX1 := hV.1.2.2.2.1.2
  have hl := hrL.2.1
  unfold PT_X1_findFault
  refine p_forget (fX1_checked_s hX1) (fun S0 a1 a2 a3 a4 a5 => ?_)
  have key : ∀ (m i : Nat) (S1 : Me), (i : Int) + (m : Int) = R 0 30 → S1.2 = S.2 → (∀ b, b < o + 10 + 7 ∨ o + 10 + 7 + 7 < b → S1.1 b = S.1 b) → PI (cF S1 (o + 10 + 7)) i (tkL R i) (whL R i) (bkL R i) (-1000) → PO (f4 S1 (o + 10 + 7)) i (tkL R i) (whL R i) (-1000) → PL S1 (o + 10 + 7) → (0 ≤ S1.1 (o + 10 + 7) 7 ∧ S1.1 (o + 10 + 7) 7 ≤ (i : Int)) → (∀ j, j < i → gdL R j) → (∀ j : Nat, j < i → ∀ l, l < j → R 17 l < R 17 j) → B_X1_findFault_9 V (o + 10) (some (o + 1)) Q (m + 1) (i : Int) S1 := by
    intro m
    induction m with
    | zero =>
      intro i S1 em g1 g2 _ _ _ _ gg _
      unfold B_X1_findFault_9
      have e7 : S1.1 (o + 10) 7 = R 0 30 := by rw [g2 _ (by omega), hL.1]
      rw [e7]
      refine ⟨fun _ S13 e13 => k (-2) (-2) S13 (Or.inl ⟨fun j hj => gg j (by omega), rfl, rfl⟩) (by rw [e13, sI_2, g1]) (fun b b1 b2 => by rw [e13, sI_na b2, g2 b (by omega)]) (fun j hj => by rw [e13, sI_ne (by omega), g2 _ (by omega)]) (by rw [e13, sI_eq]), fun w => by omega⟩
    | succ m ih =>
      intro i S1 em g1 g2 pI pO pL p7 gg rise
      have hi : (i : Int) < R 0 30 := by omega
      obtain ⟨l1, l2, l3, l4, l5, l6⟩ := hL.2.2 i hi
      obtain ⟨q1, q2, q3, q4⟩ := hrL.2.2 i hi
      have e7 : S1.1 (o + 10) 7 = R 0 30 := by rw [g2 _ (by omega), hL.1]
      have v3 : S1.1 (o + 10 + 3) i = R 18 i := by rw [g2 _ (by omega), l3]
      have v4 : S1.1 (o + 10 + 4) i = R 19 i := by rw [g2 _ (by omega), l4]
      have v2 : S1.1 (o + 10 + 2) i = R 17 i := by rw [g2 _ (by omega), l2]
      have i4 : (0 : Int) ≤ (i : Int) ∧ (i : Int) < 400 := by omega
      unfold B_X1_findFault_9
      rw [e7, tn, v3, v4, v2]
      refine ⟨fun w => by omega, fun _ => ⟨i4, i4, i4, ?_⟩⟩
      have tmv : ∀ r : Nat, r < 13 → S1.1 (o + 1) r = R 1 r := fun r hr => by rw [g2 _ (by omega), hS.2 r hr]
      have hc10 := cF_10 S1 (o + 10 + 7) (R 18 i) (R 19 i)
      have iff := rul_iff pI pO hc10 hs.1 q3 q1.1 q1.2 q2
      have ub : ∀ r : Int, 0 ≤ r → r < 13 → -1000 ≤ cF S1 (o + 10 + 7) r (R 18 i) (R 19 i) ∧ cF S1 (o + 10 + 7) r (R 18 i) (R 19 i) ≤ 1000000 := by
        intro r r0 r1
        have tb : ∀ j, j < i → tkL R i j ≤ 1000000 := fun j hj => by
          unfold tkL
          exact (hrL.2.2 (i - 1 - j) (by omega)).2.2.2
        by_cases e : r = 10
        · subst e
          rw [hc10]
          split
          · refine ⟨pL.2 3 (by omega) (by omega), ?_⟩
            rcases (pO 3 (by omega) (by omega)).2 with z | ⟨j, j1, -, -, j2⟩
            · omega
            · have := tb j j1; omega
          · omega
        · refine ⟨pL.1 r _ _ r0 r1 e q1.1 q1.2 q2, ?_⟩
          rcases (pI r _ _ r0 r1 e q1.1 q1.2 q2).2 with z | ⟨j, j1, -, j2⟩
          · omega
          · have := tb j j1; omega
      -- on: remembered
      have on : gdL R i → B_X1_findFault_74 V (o + 10) (some (o + 1)) (B_X1_findFault_9 V (o + 10) (some (o + 1)) Q (m + 1)) (i : Int) (-2) S1 Q := by
        intro hgd
        unfold B_X1_findFault_74
        rw [tn, v3, v4, v2]
        refine ⟨fun _ => ⟨i4, i4, i4, p_remember q1 q2 (by omega) (fun S8 h8 => ⟨by unfold rng; omega, ?_⟩)⟩, fun w => absurd rfl w⟩
        have hcf := rmT_cF h8 q1 q2
        have hf4 := rmT_f4 h8 p7.1
        have rise' : ∀ l, l < i → R 17 l < R 17 i := by
          intro l hl
          rcases hgd.2 with z | z
          · omega
          · by_cases e : l = i - 1
            · rw [e]; exact z
            · have := rise (i - 1) (by omega) l (by omega)
              omega
        have h0 : tkL R (i + 1) 0 = R 17 i ∧ whL R (i + 1) 0 = R 18 i ∧ bkL R (i + 1) 0 = R 19 i := ⟨rfl, rfl, rfl⟩
        have hsft : ∀ j, tkL R (i + 1) (j + 1) = tkL R i j ∧ whL R (i + 1) (j + 1) = whL R i j ∧ bkL R (i + 1) (j + 1) = bkL R i j := by
          intro j
          unfold tkL whL bkL
          rw [show i + 1 - 1 - (j + 1) = i - 1 - j by omega]
          exact ⟨rfl, rfl, rfl⟩
        have := ih (i + 1) S8 (by omega) (by rw [h8.1, g1]) (fun b hb => by rw [h8.2.1 b hb, g2 b hb]) (PI_push pI hcf h0 (fun j _ => hsft j) (by omega) (by omega) (Int.le_refl _) (fun j hj => by unfold tkL; have := rise' (i - 1 - j) (by omega); omega) (fun j hj w => absurd (by omega) w)) (PO_push pO hf4.1 hf4.2 ⟨h0.1, h0.2.1⟩ (fun j _ => ⟨(hsft j).1, (hsft j).2.1⟩) (by omega) (by omega) (Int.le_refl _) (fun j hj w => absurd (by omega) w)) ⟨fun r is b r0 r1 r2 s0 s1 hb' => ?_, fun j j0 j1 => ?_⟩ (by rw [h8.2.2.1.1]; split <;> omega) (fun j hj => ?_) (fun j hj l hl => ?_)
        · exact this
        · obtain ⟨c1, c2⟩ := hcf r is b r0 r1 r2 s0 s1 hb'
          by_cases w : hD r (R 18 i) (R 19 i) is b
          · rw [c1 w]; omega
          · rw [c2 w]; exact pL.1 r is b r0 r1 r2 s0 s1 hb'
        · by_cases w : R 18 i = 0
          · obtain ⟨d1, d2⟩ := hf4.1 w
            by_cases z : j = 0
            · rw [z, d1]; omega
            · have := d2 (j - 1) (by omega) (by omega)
              rw [show j - 1 + 1 = j by omega] at this
              rw [this]
              exact pL.2 (j - 1) (by omega) (by omega)
          · rw [hf4.2 w j j0 j1]; exact pL.2 j j0 j1
        · by_cases e : j = i
          · rw [e]; exact hgd
          · exact gg j (by omega)
        · by_cases e : j = i
          · rw [e]; exact rise' l (by omega)
          · exact rise j (by omega) l hl
      -- out: a fault
      have out : ∀ y br : Int, ¬ br = -2 → ¬ gdL R i → lsP (brN R i i) y → br = (if y < 0 then 13 else y) → B_X1_findFault_74 V (o + 10) (some (o + 1)) (B_X1_findFault_9 V (o + 10) (some (o + 1)) Q (m + 1)) (i : Int) br S1 Q := by
        intro y br hbr hng hy eb
        refine ⟨fun w => absurd w hbr, fun _ S10 e10 => k (i : Int) br S10 (Or.inr ⟨i, hi, gg, hng, rfl, y, hy, eb⟩) (by rw [e10, sI_2, g1]) (fun b b1 b2 => by rw [e10, sI_na b2, g2 b (by omega)]) (fun j hj => by rw [e10, sI_ne (by omega), g2 _ (by omega)]) (by rw [e10, sI_eq])⟩
      refine p_leastBroken hV.1.2.1.2.2.1 hV.1.2.1.2.2.2 q1 q2 p7.1 (fun r r0 r1 => ?_) (fun hall => ?_) (fun r r0 r1 hr hmin => ?_)
      · have := ub r r0 r1
        have ht := hs.1 r.toNat (by omega)
        rw [tmv _ (by omega)]
        unfold rng
        omega
      · have nob : ∀ r, 0 ≤ r → r < 13 → ¬ brN R i i r := by
          intro r r0 r1 w
          have a := (iff r r0 r1).mpr w
          have b := hall r r0 r1
          rw [tmv _ (by omega)] at b
          omega
        have hls : lsP (brN R i i) (-2) := Or.inl ⟨rfl, nob⟩
        refine ⟨fun w => absurd rfl w, fun _ => ⟨fun w => on ⟨nob, Or.inl (by omega)⟩, fun w => ⟨i4, by unfold rng; omega, by omega, ?_⟩⟩⟩
        have et : Int.toNat ((i : Int) - 1) = i - 1 := by omega
        have v21 : S1.1 (o + 10 + 2) (i - 1) = R 17 (i - 1) := by rw [g2 _ (by omega), (hL.2.2 (i - 1) (by omega)).2.1]
        rw [et, v21, v2]
        refine ⟨fun z => on ⟨nob, Or.inr z⟩, fun z => out (-2) 13 (by decide) (fun g => ?_) hls (by decide)⟩
        rcases g.2 with v | v
        · omega
        · exact z v
      · rw [tmv _ (by omega)] at hr
        have hbr := (iff r r0 r1).mp hr
        have hls : lsP (brN R i i) r := Or.inr ⟨r0, r1, hbr, fun r' q0 q1' w => by
          have a := (iff r' q0 (by omega)).mpr w
          have b := hmin r' q0 q1'
          rw [tmv _ (by omega)] at b
          omega⟩
        exact ⟨fun _ => out r r (by omega) (fun g => g.1 r r0 r1 hbr) hls (by rw [if_neg (by omega)]), fun w => by omega⟩
  refine ⟨(R 0 30).toNat + 1, ?_⟩
  have := key (R 0 30).toNat 0 S0 (by have := hrL.1; omega) a1 a2 (fun r is b r0 r1 r2 s0 s1 hb => ⟨fun j hj => by omega, Or.inl (by rw [a4 r is b r0 r1 r2 s0 s1 hb]; exact Int.le_refl _)⟩) (fun j j0 j1 => ⟨fun i hi => by omega, Or.inl (by rw [a5]; exact Int.le_refl _)⟩) ⟨fun r is b r0 r1 r2 s0 s1 hb => by rw [a4 r is b r0 r1 r2 s0 s1 hb]; exact Int.le_refl _, fun j _ _ => by rw [a5]; exact Int.le_refl _⟩ (by rw [a3]; omega) (fun j hj => by omega) (fun j hj => by omega)
  exact this
