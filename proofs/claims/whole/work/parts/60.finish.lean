/-! ===== PURE PART: Memory.serve, Queue.finish ===== -/
/-- the byte behind the x-th -/
def nbR (R : Rm) (x : Nat) : Int := if R 4 x = 0 then R 3 (R 6 x).toNat else bOr (bAnd (R 3 (R 6 x).toNat) (bXor (R 8 x) (-1))) (bAnd (R 7 x) (R 8 x))
theorem p_serve {o : Nat} {V : Vt} {S : Me} {c : Nat → Nat} {R : Rm} {x : Nat} {Q : Me → Prop} (hM : jM o S R) (hR : rM R) (hA : cA o V S c R) (hr : rA R) (hx : pw R x) (k : Q (sI (sI S (c x) 7 (if R 4 x = 0 ∨ R 4 x = 3 then R 3 (R 6 x).toNat else -2)) (o + 25 + 1) (R 6 x).toNat (nbR R x))) : PT_X4_serve V (o + 25) (some (c x)) S Q := by
  obtain ⟨⟨a1, a2, a3, a4, a5⟩, ⟨b0, b1, b2, b3, b4, b5⟩, -, d1, d2⟩ := hA x hx.1.1
  obtain ⟨r4, -, r6, r7, r8, -⟩ := hr.2.2 x hx.1.1
  have r6 : 0 ≤ R 6 x ∧ R 6 x < 1024 := by
    rcases r6 with z | z
    · exact absurd z.1 hx.2
    · exact z.2
  have hm := hR.1 (R 6 x).toNat (by omega)
  refine ⟨c x, rfl, a4, ?_⟩
  rw [b2, hM.1 _ (by omega)]
  refine ⟨r6, pv_answer a4 ?_⟩
  rw [a5]
  intro S7 e7
  have v2 : S7.1 (c x) 2 = R 6 x := by rw [e7, sI_ne (Or.inr (by decide)), b2]
  have v11 : S7.1 (c x) 11 = S.1 (c x) 11 := by rw [e7, sI_ne (Or.inr (by decide))]
  have v12 : S7.1 (c x) 12 = S.1 (c x) 12 := by rw [e7, sI_ne (Or.inr (by decide))]
  have fin : ∀ nb : Int, nb = nbR R x → (0 ≤ S7.1 (c x) 2 ∧ S7.1 (c x) 2 < 1024) ∧ ∀ S12 : Me, S12 = sI S7 (o + 25 + 1) (Int.toNat (S7.1 (c x) 2)) nb → Q S12 := by
    intro nb hn
    rw [v2]
    refine ⟨r6, fun S12 e12 => ?_⟩
    rw [e12, e7, hn]
    exact k
  refine pv_octet a4 (fun g => fin _ ?_) (fun g => fin _ ?_) (fun g => fin _ ?_)
  · rw [a5] at g
    unfold nbR
    rw [if_pos (by have := hx.2; omega)]
  · rw [a5] at g
    unfold nbR
    rw [v11, d1 (by omega), if_neg (by omega), r8 g, by_w hm.1 hm.2 r7.1 r7.2.1]
  · rw [a5] at g
    unfold nbR
    rw [v11, v12, d1 (by omega), d2 g, if_neg (by omega)]
theorem p_finishC {o : Nat} {V : Vt} {S : Me} {c : Nat → Nat} {R : Rm} {x : Nat} {t : Int} {Q : Me → Prop} (hA : cA o V S c R) (hr : rA R) (hC : Cn S (o + 28) c (wt R) (nA_ R)) (hx : pw R x) (h7 : rng (S.1 (o + 28) 7 - 1)) (h9 : rng (S.1 (o + 28) 9 + 1)) (h3 : rng (S.1 (o + 28 + 3) (R 5 x).toNat + 1)) (ht : rng (t - R 9 x))
    (k : ∀ S', (∀ a j, ¬ (a = o + 28 ∧ (j = 7 ∨ j = 9 ∨ j = 10)) → a ≠ o + 28 + 3 → a ≠ o + 28 + 4 → ¬ (a = c x ∧ j = 6) → S'.1 a j = S.1 a j) → (S'.1 (c x) 6 = t ∧ S'.1 (o + 28) 7 = S.1 (o + 28) 7 - 1 ∧ S'.1 (o + 28) 9 = S.1 (o + 28) 9 + 1 ∧ ((∀ j, j < x → ¬ pw R j) → S'.1 (o + 28) 10 = S.1 (o + 28) 9 + 1) ∧ (¬ (∀ j, j < x → ¬ pw R j) → S'.1 (o + 28) 10 = S.1 (o + 28) 10)) → (∀ y, S'.1 (o + 28 + 3) y = if y = (R 5 x).toNat then S.1 (o + 28 + 3) y + 1 else S.1 (o + 28 + 3) y) → (∀ y, S'.1 (o + 28 + 4) y = if y = (R 5 x).toNat then (if S.1 (o + 28 + 4) y < t - R 9 x then t - R 9 x else S.1 (o + 28 + 4) y) else S.1 (o + 28 + 4) y) → (∀ a i, (a ≠ o + 28 ∨ (i ≠ 4 ∧ i ≠ 5)) → (i ≠ 8 ∨ ∀ j, j < nA_ R → a ≠ c j) → S'.2 a i = S.2 a i) → Cn S' (o + 28) c (fun i => wt R i ∧ i ≠ x) (nA_ R) → Q S') : PT_X7_finish V (o + 28) (some (c x)) t S Q := by
  have hc := cA_inj hA hr
  have hxn := wt_n hr x hx.1
  have hAi : ∀ i, i < nA_ R → isA (V.2.1 (c i)) ∧ kT (V.2.1 (c i)) = R 4 i ∧ o + 73 ≤ c i := fun i hi => by
    obtain ⟨⟨a1, a2, a3, a4, a5⟩, -⟩ := hA i ((nA_i hr i).mp hi)
    exact ⟨a4, a5, a2⟩
  have hu : ∀ i, i < nA_ R → c i ≠ o + 28 := fun i hi => by have := (hAi i hi).2.2; omega
  obtain ⟨-, ⟨-, b1, -, -, -, b5⟩, -⟩ := hA x hx.1.1
  obtain ⟨-, r5, -⟩ := hr.2.2 x hx.1.1
  have hAx := hAi x hxn
  -- found
  have fin : ∀ (y3 : Int) (y4 : Option Nat), (¬ y3 = 0 ↔ ∀ j, j < x → ¬ pw R j) → Lt (wt R) c x y4 → B_X7_finish_54 V (o + 28) (some (c x)) t y3 y4 S Q := by
    intro y3 y4 hy hl
    unfold B_X7_finish_54
    refine p_unlink (fun i hi => wt_n hr i hi) hc hu (fun i hi => (hAi i hi).1) hC hx.1 hl h7 (fun S1 v1 v2 v3 v4 => ?_)
    refine ⟨c x, rfl, hAx.1, fun S18 e18 => ?_⟩
    have f18 : ∀ a j, ¬ (a = o + 28 ∧ j = 7) → ¬ (a = c x ∧ j = 6) → S18.1 a j = S.1 a j := fun a j h1 h2 => by rw [e18, sI_ne (by omega), v1, sI_ne (by omega)]
    have w9 : S18.1 (o + 28) 9 = S.1 (o + 28) 9 := f18 _ _ (by omega) (by omega)
    rw [w9]
    refine ⟨h9, fun S21 e21 => ?_⟩
    have b88 : ∀ S24 : Me, S24.2 = S21.2 → (∀ a j, ¬ (a = o + 28 ∧ j = 10) → S24.1 a j = S21.1 a j) → ((∀ j, j < x → ¬ pw R j) → S24.1 (o + 28) 10 = S.1 (o + 28) 9 + 1) → (¬ (∀ j, j < x → ¬ pw R j) → S24.1 (o + 28) 10 = S.1 (o + 28) 10) → B_X7_finish_88 V (o + 28) (some (c x)) t S24 Q := by
      intro S24 g2 g1 ga gb
      have m : ∀ a j, ¬ (a = o + 28 ∧ (j = 7 ∨ j = 9 ∨ j = 10)) → ¬ (a = c x ∧ j = 6) → S24.1 a j = S.1 a j := fun a j h1 h2 => by
        rw [g1 a j (by omega), e21, sI_ne (by omega), f18 a j (by omega) h2]
      have cx : o + 73 ≤ c x := hAx.2.2
      have s1 : S24.1 (c x) 1 = R 5 x := by rw [m _ _ (by omega) (by omega), b1]
      have s5 : S24.1 (c x) 5 = R 9 x := by rw [m _ _ (by omega) (by omega), b5]
      refine ⟨c x, rfl, hAx.1, ?_⟩
      rw [s1, m (o + 28 + 3) _ (by omega) (by omega)]
      refine ⟨r5, h3, r5, fun S7 e7 => ?_⟩
      have t1 : S7.1 (c x) 1 = R 5 x := by rw [e7, sI_na (by omega), s1]
      have t5 : S7.1 (c x) 5 = R 9 x := by rw [e7, sI_na (by omega), s5]
      have t4 : ∀ y, S7.1 (o + 28 + 4) y = S.1 (o + 28 + 4) y := fun y => by rw [e7, sI_na (by omega), m _ _ (by omega) (by omega)]
      rw [t1, t5, t4]
      refine ⟨r5, ht, r5, fun S15 e15 => k S15 (fun a j h1 h2 h3' h4 => ?_) ⟨?_, ?_, ?_, fun z => ?_, fun z => ?_⟩ (fun y => ?_) (fun y => ?_) (fun a i h1 h2 => ?_) ?_⟩
      · rw [e15, sI_na h3', e7, sI_na h2, m a j (by omega) h4]
      · rw [e15, sI_na (by omega), e7, sI_na (by omega), g1 _ _ (by omega), e21, sI_na (by omega), e18, sI_eq]
      · rw [e15, sI_na (by omega), e7, sI_na (by omega), g1 _ _ (by omega), e21, sI_ne (by omega), e18, sI_na (by omega), v1, sI_eq]
      · rw [e15, sI_na (by omega), e7, sI_na (by omega), g1 _ _ (by omega), e21, sI_eq]
      · rw [e15, sI_na (by omega), e7, sI_na (by omega), ga z]
      · rw [e15, sI_na (by omega), e7, sI_na (by omega), gb z]
      · rw [e15, sI_na (by omega), e7, sI_at, m _ _ (by omega) (by omega)]
        by_cases q : y = (R 5 x).toNat
        · rw [if_pos q, if_pos q, q]
        · rw [if_neg q, if_neg q]
      · rw [e15, sI_at, t4]
        by_cases q : y = (R 5 x).toNat
        · rw [if_pos q, if_pos q, q]
        · rw [if_neg q, if_neg q]
      · rw [e15, sI_2, e7, sI_2, g2, e21, sI_2, e18, sI_2]
        exact v2 a i h1 h2
      · unfold Cn
        rw [e15, sI_2, e7, sI_2, g2, e21, sI_2, e18, sI_2]
        exact v4
    refine ⟨fun z => b88 S21 rfl (fun _ _ _ => rfl) (fun g => absurd z (hy.mpr g)) (fun _ => ?_), fun z S24 e24 => b88 S24 (by rw [e24, sI_2]) (fun a j h1 => by rw [e24, sI_ne (by omega)]) (fun _ => ?_) (fun g => absurd (hy.mp z) g)⟩
    · rw [e21, sI_ne (by omega)]
      exact f18 _ _ (by omega) (fun q => hu x hxn q.1.symm)
    · rw [e24, sI_eq, e21, sI_eq]
  have key : ∀ (fu i : Nat) (y3 : Int) (y4 y5 : Option Nat), x + 1 - i < fu → i ≤ x → Nx (wt R) c i y5 → Lt (wt R) c i y4 → (¬ y3 = 0 ↔ ∀ j, j < i → ¬ pw R j) → B_X7_finish_11 V (o + 28) (some (c x)) t Q fu y3 y4 y5 S := by
    intro fu
    induction fu with
    | zero => intro i y3 y4 y5 a; omega
    | succ fu ih =>
      intro i y3 y4 y5 hf hi hn hl hy
      unfold B_X7_finish_11
      rcases hn with ⟨e, a⟩ | ⟨j, e, b1', b2, b3⟩
      · exact absurd hx.1 (a x hi)
      · have hjn := wt_n hr j b2
        have hjx : j ≤ x := by
          rcases Nat.lt_or_ge x j with z | z
          · exact absurd hx.1 (b3 x hi z)
          · exact z
        have hl : Lt (wt R) c j y4 := by
          rcases hl with ⟨l1, l2⟩ | ⟨l, l1, l2, l3, l4⟩
          · refine Or.inl ⟨l1, fun k h1 h2 => ?_⟩
            rcases Nat.lt_or_ge k i with w | w
            · exact l2 k w h2
            · exact b3 k w h1 h2
          · refine Or.inr ⟨l, l1, by omega, l3, fun k h1 h2 h3 => ?_⟩
            rcases Nat.lt_or_ge k i with w | w
            · exact l4 k h1 w h3
            · exact b3 k w h2 h3
        have hy : ¬ y3 = 0 ↔ ∀ l, l < j → ¬ pw R l := by
          rw [hy]
          refine ⟨fun z l h1 h2 => ?_, fun z l h1 => z l (by omega)⟩
          rcases Nat.lt_or_ge l i with w | w
          · exact z l w h2
          · exact b3 l w h1 h2.1
        rw [e]
        refine ⟨fun z => (by cases z), fun _ => ⟨fun z => ?_, fun z => ?_⟩⟩
        · have ejx : j = x := hc j x hjn hxn (Option.some.inj z)
          subst ejx
          exact fin y3 y4 hy hl
        · have hlt : j < x := by
            rcases Nat.lt_or_ge j x with w | w
            · exact w
            · have : j = x := by omega
              exact absurd (by rw [this]) z
          have hf2 : x + 1 - (j + 1) < fu := by clear hy; omega
          have nx : ∀ y : Int, (¬ y = 0 ↔ ∀ l, l < j + 1 → ¬ pw R l) → B_X7_finish_39 V (o + 28) (some (c x)) t (B_X7_finish_11 V (o + 28) (some (c x)) t Q fu) (some (c j)) y S Q := by
            intro y hy2
            exact ⟨c j, rfl, (hAi j hjn).1, ih (j + 1) y _ _ hf2 hlt (hC.2.1 j b2) (Or.inr ⟨j, rfl, by clear hy hy2; omega, b2, fun l h1 h2 => by clear hy hy2; omega⟩) hy2⟩
          have nx0 : ¬ (∀ l, l < j + 1 → ¬ pw R l) → B_X7_finish_38 V (o + 28) (some (c x)) t (B_X7_finish_11 V (o + 28) (some (c x)) t Q fu) (some (c j)) S Q := fun g => nx 0 ⟨fun w => absurd rfl w, fun w => absurd w g⟩
          refine ⟨fun z0 => nx0 (fun g => (hy.mpr (fun l h1 => g l (Nat.lt_succ_of_lt h1))) z0), fun z0 => ⟨c j, rfl, (hAi j hjn).1, pv_isFence (hAi j hjn).1 (fun g4 => ⟨fun w => absurd w (by decide), fun _ => nx 1 ⟨fun _ l h1 h2 => ?_, fun _ => by decide⟩⟩) (fun g4 => ⟨fun _ => nx0 (fun g => g j (Nat.lt_succ_self j) ⟨b2, by rw [← (hAi j hjn).2.1]; exact g4⟩), fun w => absurd rfl w⟩)⟩⟩
          rcases Nat.lt_or_ge l j with w | w
          · exact hy.mp z0 l w h2
          · have : l = j := Nat.le_antisymm (Nat.le_of_lt_succ h1) w
            subst this
            exact h2.2 (by rw [← (hAi l hjn).2.1]; exact g4)
  exact ⟨x + 2, key (x + 2) 0 1 none _ (by omega) (by omega) hC.1 (Or.inl ⟨rfl, fun j hj => by omega⟩) ⟨fun _ j hj => by omega, fun _ => by decide⟩⟩
