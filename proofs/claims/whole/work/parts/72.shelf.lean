/-! ===== PURE PART: shelves: weight, toss, element, make ===== -/
theorem p_shelf {o : Nat} {V : Vt} {S : Me} {c : Nat → Nat} {R : Rm} {x : Int} {Q : Option Nat → Me → Prop} (hH : jH o V S c R) (h1 : ∀ d : Nat, x = (d : Int) → d < 8 → Q (some (o + 34 + d)) S) (h0 : ¬ (0 ≤ x ∧ x < 8) → Q none S) : PT_X11_findShelf V o x S Q := by
  unfold PT_X11_findShelf B_X11_findShelf_10
  refine ⟨fun z => h0 (by omega), fun z => ⟨fun z2 => ⟨by omega, ?_⟩, fun z2 => h0 (by omega)⟩⟩
  rw [hH.1 x.toNat (by omega)]
  exact h1 x.toNat (by omega) (by omega)
theorem p_isShelf {V : Vt} {x : Int} {S : Me} {Q : Int → Me → Prop} (h1 : 0 ≤ x ∧ x < 8 → Q 1 S) (h0 : ¬ (0 ≤ x ∧ x < 8) → Q 0 S) : PT_X12_isShelf V x S Q := ⟨fun z => h0 (by omega), fun z => ⟨fun z2 => h0 (by omega), fun z2 => h1 (by omega)⟩⟩
/-- why a shelf has no Ask -/
theorem p_denied {V : Vt} {q : Nat} {x : Int} {S : Me} {Q : Int → Me → Prop} (h0 : ¬ (0 ≤ x ∧ x < 8) → Q (-1) S) (h1 : 0 ≤ x ∧ x < 8 → (rf q S 25 x.toNat = 0 → Q (-11) S) ∧ (¬ rf q S 25 x.toNat = 0 → rf q S 25 x.toNat ≤ 1 → Q 0 S) ∧ (¬ rf q S 25 x.toNat = 0 → ¬ rf q S 25 x.toNat ≤ 1 → Q (-12) S)) : PT_X12_denied V q x S Q := by
  unfold PT_X12_denied
  refine p_isShelf (fun g => ⟨fun _ => ⟨g, ?_⟩, fun e => absurd e (by decide)⟩) (fun g => ⟨fun e => absurd rfl e, fun _ => h0 g⟩)
  obtain ⟨a, b, c⟩ := h1 g
  rw [rfa 25 _ (by decide)]
  exact ⟨fun z => ⟨g, fun z2 => b z z2, fun z2 => c z z2⟩, fun z => a z⟩
theorem pv_heft {V : Vt} {a : Nat} {S : Me} {Q : Int → Me → Prop} (h : isA (V.2.1 a)) (h1 : 0 ≤ S.1 a 1 ∧ S.1 a 1 < 4) (k : Q (if kT (V.2.1 a) = 0 then 5 + S.1 a 1 else if kT (V.2.1 a) = 1 then 5 + S.1 a 1 + 20 else if kT (V.2.1 a) = 2 then 2 * (5 + S.1 a 1 + 20) else if kT (V.2.1 a) = 3 then 2 * (5 + S.1 a 1 + 20) + 1 else 5 + S.1 a 1 + 300) S) : PV_heft V a S Q := by
  have e1 : (5 + S.1 a 1 + 20) * 2 = 2 * (5 + S.1 a 1 + 20) := by omega
  unfold PV_heft PT_X2_heft PT_X3_heft PT_X9_heft PT_X10_heft PT_X0_heft
  rcases h with e | e | e | e | e
  · rw [e] at k ⊢
    refine ⟨fun _ => ⟨by unfold rng; omega, by unfold rng; omega, by simpa [kT] using k⟩, fun z => absurd z (by decide), fun z => absurd z (by decide), fun z => absurd z (by decide), fun z => absurd z (by decide)⟩
  · rw [e] at k ⊢
    refine ⟨fun z => absurd z (by decide), fun _ => ⟨by unfold rng; omega, by unfold rng; omega, by unfold rng; omega, ?_⟩, fun z => absurd z (by decide), fun z => absurd z (by decide), fun z => absurd z (by decide)⟩
    rw [e1]
    simpa [kT] using k
  · rw [e] at k ⊢
    refine ⟨fun z => absurd z (by decide), fun z => absurd z (by decide), fun _ => ⟨by unfold rng; omega, by simpa [kT] using k⟩, fun z => absurd z (by decide), fun z => absurd z (by decide)⟩
  · rw [e] at k ⊢
    refine ⟨fun z => absurd z (by decide), fun z => absurd z (by decide), fun z => absurd z (by decide), fun _ => ⟨by unfold rng; omega, by unfold rng; omega, by unfold rng; omega, by unfold rng; omega, ?_⟩, fun z => absurd z (by decide)⟩
    rw [e1]
    simpa [kT] using k
  · rw [e] at k ⊢
    refine ⟨fun z => absurd z (by decide), fun z => absurd z (by decide), fun z => absurd z (by decide), fun z => absurd z (by decide), fun _ => ⟨by unfold rng; omega, by unfold rng; omega, by simpa [kT] using k⟩⟩
theorem pr_weight {o : Nat} {V : Vt} {S : Me} {n x1 : Int} (h : jJ o V S n) : PT_X11_weight V o x1 S (fun r S1 => PT_X12_weight V (o + 42) x1 S1 (fun r2 S2 => r2 = r ∧ jJ o V S2 n)) := by
  obtain ⟨c, hT⟩ := jJ_st h
  obtain ⟨hV, hS, hP, hG, hL, hrL, hM, hrM, hA, hrA, hrO, hQ, hW, hH, hs⟩ := hT.1
  have h13 := hrA.1
  unfold PT_X11_weight
  refine p_shelf hH (fun d ed hd => ⟨fun _ => ⟨o + 34 + d, rfl, hV.2.2.2.2 d hd, ?_⟩, fun e => by cases e⟩) (fun g => ⟨fun e => absurd rfl e, fun _ S1 e1 => ?_⟩)
  · have et : x1.toNat = d := by omega
    -- a refusal
    have deny : ∀ r : Int, (rf (o + 42) S 25 d = 0 ∧ r = -11) ∨ ((rf (o + 42) S 25 d = 3 ∨ rf (o + 42) S 25 d = 4) ∧ r = -12) → PT_X12_weight V (o + 42) x1 S (fun r2 S2 => r2 = r ∧ jJ o V S2 n) := by
      intro r hr S1 e1
      obtain ⟨t1, t2⟩ := th_0 e1
      have j := jJ_end hT t1 t2
      refine p_denied (fun w => absurd (by omega) w) (fun _ => ?_)
      rw [t2, et]
      exact ⟨fun w => ⟨fun e => absurd e (by decide), fun _ => ⟨by omega, j⟩⟩, fun w1 w2 => by omega, fun w1 w2 => ⟨fun e => absurd e (by decide), fun _ => ⟨by omega, j⟩⟩⟩
    unfold PT_X8_refusalWithoutAsk PT_X8_isEmpty
    rcases hH.2.1 d hd with ⟨g1, g2, g3⟩ | ⟨g1, k, g2, g3, g4, g5⟩ | ⟨g1, g2, e, g3, -⟩
    · rw [g2, g3]
      exact ⟨fun w => absurd rfl w, fun _ => ⟨fun w => absurd rfl w, fun _ => ⟨fun w => absurd rfl w, fun _ => ⟨fun w => absurd w (by decide), fun _ => deny _ (Or.inl ⟨g1, rfl⟩)⟩⟩⟩⟩
    · rw [g4]
      obtain ⟨⟨a1, a2, a3, a4, a5⟩, ⟨b0, b1, -⟩, -⟩ := hA k g3
      obtain ⟨m1, m2, -⟩ := hrA.2.2 k g3
      refine ⟨fun _ => ⟨c k, rfl, a4, pv_heft a4 (by rw [b1]; exact m2) ?_⟩, fun w => by cases w⟩
      rw [a5, b1]
      intro S1 e1
      obtain ⟨t1, t2⟩ := th_0 e1
      have j := jJ_end hT t1 t2
      refine p_denied (fun w => absurd (by omega) w) (fun _ => ?_)
      rw [t2, et]
      refine ⟨fun w => by omega, fun _ _ => ⟨fun _ => ?_, fun w => absurd (Int.le_refl 0) w⟩, fun w1 w2 => by omega⟩
      rw [rfa (q := o + 42) (S := S1) 27 _ (by decide), t2, g2, tn, rfa (q := o + 42) (S := S1) 5 _ (by decide), rfa (q := o + 42) (S := S1) 4 _ (by decide), t2]
      refine ⟨by omega, by omega, by unfold rng; omega, by omega, by omega, fun w => ⟨by rw [if_pos w], j⟩, fun w => ⟨by unfold rng; omega, by rw [if_neg (by omega), if_pos w], j⟩, fun w => ⟨by unfold rng; omega, by unfold rng; omega, by rw [if_neg (by omega), if_neg (by omega), if_pos w], j⟩, fun w => ⟨by unfold rng; omega, by unfold rng; omega, by unfold rng; omega, by rw [if_neg (by omega), if_neg (by omega), if_neg (by omega), if_pos w], j⟩, fun w => ⟨by unfold rng; omega, by rw [if_neg (by omega), if_neg (by omega), if_neg (by omega), if_neg (by omega)], j⟩⟩
    · rw [g2, g3]
      exact ⟨fun w => absurd rfl w, fun _ => ⟨fun w => absurd rfl w, fun _ => ⟨fun _ => ⟨fun _ => deny _ (Or.inr ⟨g1, rfl⟩), fun w => absurd rfl w⟩, fun w => by cases w⟩⟩⟩
  · obtain ⟨t1, t2⟩ := th_0 e1
    exact p_denied (fun _ => ⟨fun w => absurd w (by decide), fun _ => ⟨rfl, jJ_end hT t1 t2⟩⟩) (fun w => absurd w g)
theorem kT_5 {t : Nat} (h : isA t) : t = 5 ↔ kT t = 0 := by
  unfold kT
  rcases h with e | e | e | e | e <;> subst e <;> simp
theorem pr_toss {o : Nat} {V : Vt} {S : Me} {n x1 : Int} (h : jJ o V S n) : PT_X11_toss V o x1 S (fun r S1 => PT_X12_toss V (o + 42) x1 S1 (fun r2 S2 => r2 = r ∧ jJ o V S2 n)) := by
  obtain ⟨c, hT⟩ := jJ_st h
  obtain ⟨hV, hS, hP, hG, hL, hrL, hM, hrM, hA, hrA, hrO, hQ, hW, hH, hs⟩ := hT.1
  have h13 := hrA.1
  unfold PT_X11_toss
  refine p_shelf hH (fun d ed hd => ⟨fun e => (by cases e), fun _ => ⟨o + 34 + d, rfl, hV.2.2.2.2 d hd, ?_⟩⟩) (fun g => ⟨fun _ S1 e1 => ?_, fun e => absurd rfl e⟩)
  · have et : x1.toNat = d := by omega
    have deny : ∀ r : Int, (rf (o + 42) S 25 d = 0 ∧ r = -11) ∨ ((rf (o + 42) S 25 d = 3 ∨ rf (o + 42) S 25 d = 4) ∧ r = -12) → PT_X12_toss V (o + 42) x1 S (fun r2 S2 => r2 = r ∧ jJ o V S2 n) := by
      intro r hr S1 e1
      obtain ⟨t1, t2⟩ := th_0 e1
      have j := jJ_end hT t1 t2
      refine p_denied (fun w => absurd (by omega) w) (fun _ => ?_)
      rw [t2, et]
      exact ⟨fun w => ⟨fun e => absurd e (by decide), fun _ => ⟨by omega, j⟩⟩, fun w1 w2 => by omega, fun w1 w2 => ⟨fun e => absurd e (by decide), fun _ => ⟨by omega, j⟩⟩⟩
    unfold PT_X8_refusalWithoutAsk PT_X8_isEmpty
    rcases hH.2.1 d hd with ⟨g1, g2, g3⟩ | ⟨g1, k, g2, g3, g4, g5⟩ | ⟨g1, g2, e, g3, -⟩
    · rw [g2, g3]
      exact ⟨fun _ => ⟨fun w => absurd rfl w, fun _ => ⟨fun w => absurd rfl w, fun _ => ⟨fun w => absurd w (by decide), fun _ => deny _ (Or.inl ⟨g1, rfl⟩)⟩⟩⟩, fun w => absurd rfl w⟩
    · rw [g4]
      obtain ⟨⟨a1, a2, a3, a4, a5⟩, ⟨b0, b1, -⟩, -⟩ := hA k g3
      have k5 := kT_5 a4
      rw [a5] at k5
      have ref : ∀ r : Int, (rf (o + 42) S 4 k = 0 → r = -15) → (¬ rf (o + 42) S 4 k = 0 → r = (k : Int)) → PT_X12_toss V (o + 42) x1 S (fun r2 S2 => r2 = r ∧ jJ o V S2 n) := by
        intro r r0 r1 S1 e1
        obtain ⟨t1, t2⟩ := th_0 e1
        have j := jJ_end hT t1 t2
        refine p_denied (fun w => absurd (by omega) w) (fun _ => ?_)
        rw [t2, et]
        refine ⟨fun w => by omega, fun _ _ => ⟨fun _ => ?_, fun w => absurd (Int.le_refl 0) w⟩, fun w1 w2 => by omega⟩
        rw [rfa (q := o + 42) (S := S1) 27 _ (by decide), t2, g2, tn, rfa (q := o + 42) (S := S1) 4 _ (by decide), t2]
        exact ⟨by omega, by omega, fun w => ⟨by omega, (r1 w).symm, j⟩, fun w => ⟨(r0 w).symm, j⟩⟩
      refine ⟨fun w => (by cases w), fun _ => ⟨c k, rfl, a4, fun w => ref _ (fun _ => rfl) (fun w2 => absurd (k5.mp w) w2), fun w => ?_⟩⟩
      rw [b0]
      exact ref _ (fun w2 => absurd (k5.mpr w2) w) (fun _ => rfl)
    · rw [g2, g3]
      exact ⟨fun _ => ⟨fun w => absurd rfl w, fun _ => ⟨fun _ => ⟨fun _ => deny _ (Or.inr ⟨g1, rfl⟩), fun w => absurd rfl w⟩, fun w => by cases w⟩⟩, fun w => absurd rfl w⟩
  · obtain ⟨t1, t2⟩ := th_0 e1
    exact p_denied (fun _ => ⟨fun w => absurd w (by decide), fun _ => ⟨rfl, jJ_end hT t1 t2⟩⟩) (fun w => absurd w g)
theorem pr_element {o : Nat} {V : Vt} {S : Me} {n x1 x2 : Int} (h : jJ o V S n) : PT_L_element V o x1 x2 (o + 72) S (fun k S1 => PT_X12_element V (o + 42) x1 x2 S1 (fun b S2 => S2.1 (o + 42) 0 = k ∧ (k = 0 → S2.1 (o + 72) 0 = b) ∧ jJ o V S2 n)) := by
  obtain ⟨c, hT⟩ := jJ_st h
  obtain ⟨hV, hS, hP, hG, hL, hrL, hM, hrM, hA, hrA, hrO, hQ, hW, hH, hs⟩ := hT.1
  -- the reference's end
  have fin : ∀ (S1 : Me) (k y3 : Int) (rr : Int), jT o V S1 c (rf (o + 42) S) n → rf (o + 42) S1 = rf (o + 42) S → (k = 0 → S1.1 (o + 72) 0 = rr) → (y3 = 0 → ¬ k = 0) → (¬ y3 = 0 → 0 ≤ x1 ∧ x1 < 8 ∧ 0 ≤ x2 ∧ x2 < 60 ∧ rf (o + 42) S 28 (60 * x1 + x2).toNat = rr) → B_X12_element_62 V (o + 42) x1 x2 y3 (some (o + 42)) k S1 (fun b S2 => S2.1 (o + 42) 0 = k ∧ (k = 0 → S2.1 (o + 72) 0 = b) ∧ jJ o V S2 n) := by
    intro S1 k y3 rr hT1 e1 hr hy0 hy1
    refine ⟨o + 42, rfl, hV.2.1, fun S2 e2 => ?_⟩
    obtain ⟨t1, t2⟩ := th_0 e2
    have j := jJ_end hT1 t1 (by rw [t2, e1])
    have v0 : S2.1 (o + 42) 0 = k := by rw [e2, sI_eq]
    have v72 : S2.1 (o + 72) 0 = S1.1 (o + 72) 0 := by rw [e2, sI_na (by omega)]
    refine ⟨fun z => ⟨v0, fun z2 => absurd z2 (hy0 z), j⟩, fun z => ?_⟩
    obtain ⟨q1, q2, q3, q4, q5⟩ := hy1 z
    refine ⟨by unfold rng; omega, by unfold rng; omega, by omega, v0, fun z2 => ?_, j⟩
    rw [v72, hr z2, rfa (q := o + 42) (S := S2) 28 _ (by decide), t2, e1, q5]
  have nosh : ¬ (0 ≤ x1 ∧ x1 < 8) → PT_X12_element V (o + 42) x1 x2 S (fun b S2 => S2.1 (o + 42) 0 = 1 ∧ ((1 : Int) = 0 → S2.1 (o + 72) 0 = b) ∧ jJ o V S2 n) := by
    intro g
    unfold PT_X12_element B_X12_element_39 B_X12_element_40
    exact p_isShelf (fun w => absurd w g) (fun _ => ⟨fun _ => p_isShelf (fun w => absurd w g) (fun _ => ⟨fun e => absurd rfl e, fun _ => fin S 1 0 0 hT rfl (fun e => absurd e (by decide)) (fun _ => by decide) (fun e => absurd rfl e)⟩), fun e => absurd rfl e⟩)
  have two : (0 ≤ x1 ∧ x1 < 8) → ¬ (2 < rf (o + 42) S 25 x1.toNat ∧ 0 ≤ x2 ∧ x2 < rf (o + 42) S 26 x1.toNat) → rng (rf (o + 42) S 26 x1.toNat - 1) → PT_X12_element V (o + 42) x1 x2 S (fun b S2 => S2.1 (o + 42) 0 = 2 ∧ ((2 : Int) = 0 → S2.1 (o + 72) 0 = b) ∧ jJ o V S2 n) := by
    intro g gb hrg
    have b39 : B_X12_element_39 V (o + 42) x1 x2 S (fun b S2 => S2.1 (o + 42) 0 = 2 ∧ ((2 : Int) = 0 → S2.1 (o + 72) 0 = b) ∧ jJ o V S2 n) := by
      unfold B_X12_element_39 B_X12_element_40
      exact p_isShelf (fun _ => ⟨fun _ => ⟨fun _ => fin S 2 0 0 hT rfl (fun e => absurd e (by decide)) (fun _ => by decide) (fun e => absurd rfl e), fun e => absurd rfl e⟩, fun e => absurd e (by decide)⟩) (fun w => absurd g w)
    unfold PT_X12_element
    refine p_isShelf (fun _ => ⟨fun e => absurd e (by decide), fun _ => ⟨g, ?_⟩⟩) (fun w => absurd g w)
    rw [rfa (q := o + 42) (S := S) 25 _ (by decide), rfa (q := o + 42) (S := S) 26 _ (by decide)]
    refine ⟨fun _ => b39, fun z => ⟨g, hrg, fun _ => b39, fun z2 => ?_⟩⟩
    have := isin_1.mp z2
    exact absurd ⟨by omega, by omega, by omega⟩ gb
  unfold PT_L_element PT_X11_element
  refine p_shelf hH (fun d ed hd => ⟨fun e => (by cases e), fun _ => ⟨o + 34 + d, rfl, hV.2.2.2.2 d hd, ?_⟩⟩) (fun g => ⟨fun _ => Or.inl ⟨rfl, nosh g⟩, fun e => absurd rfl e⟩)
  have et : x1.toNat = d := by omega
  have g8 : 0 ≤ x1 ∧ x1 < 8 := by omega
  have hno : rf (o + 42) S 25 d ≤ 1 → rng (rf (o + 42) S 26 d - 1) → PT_X12_element V (o + 42) x1 x2 S (fun b S2 => S2.1 (o + 42) 0 = 2 ∧ ((2 : Int) = 0 → S2.1 (o + 72) 0 = b) ∧ jJ o V S2 n) := fun w w2 => two g8 (by rw [et]; omega) (by rw [et]; exact w2)
  have b39' : ¬ (2 < rf (o + 42) S 25 d) → PT_X12_element V (o + 42) x1 x2 S (fun b S2 => S2.1 (o + 42) 0 = 2 ∧ ((2 : Int) = 0 → S2.1 (o + 72) 0 = b) ∧ jJ o V S2 n) := by
    intro w
    unfold PT_X12_element B_X12_element_39 B_X12_element_40
    refine p_isShelf (fun _ => ⟨fun e => absurd e (by decide), fun _ => ⟨g8, ?_⟩⟩) (fun w => absurd g8 w)
    rw [rfa (q := o + 42) (S := S) 25 _ (by decide), et]
    refine ⟨fun _ => p_isShelf (fun _ => ⟨fun _ => ⟨fun _ => fin S 2 0 0 hT rfl (fun e => absurd e (by decide)) (fun _ => by decide) (fun e => absurd rfl e), fun e => absurd rfl e⟩, fun e => absurd e (by decide)⟩) (fun w => absurd g8 w), fun z => absurd (by omega) w⟩
  rcases hH.2.1 d hd with ⟨g1, g2, g3⟩ | ⟨g1, k, g2, g3, g4, g5⟩ | ⟨g1, g2, e, g3, g4, g5, g6, g7, g8', g9, g10⟩
  · rw [g3]
    exact ⟨fun _ => Or.inr ⟨rfl, b39' (by omega)⟩, fun w => absurd rfl w⟩
  · rw [g5]
    exact ⟨fun _ => Or.inr ⟨rfl, b39' (by omega)⟩, fun w => absurd rfl w⟩
  · rw [g3]
    have hrg : rng (rf (o + 42) S 26 x1.toNat - 1) := by rw [et, ← g7]; unfold rng; omega
    refine ⟨fun w => (by cases w), fun _ => ⟨e, rfl, g6, fun w => Or.inr ⟨rfl, two g8 (by omega) hrg⟩, fun w => ⟨fun w2 => ?_, fun w2 => Or.inr ⟨rfl, two g8 (by rw [et, ← g7]; omega) hrg⟩⟩⟩⟩
    rw [g7] at w2
    have hT1 : jT o V (sI S (o + 72) 0 (S.1 e x2.toNat)) c (rf (o + 42) S) n := jT_c (S := S) (fun b hb => by rw [sI_na (by omega)]) rfl hT
    have e1 : rf (o + 42) (sI S (o + 72) 0 (S.1 e x2.toNat)) = rf (o + 42) S := rf_c (fun b b1 b2 => by rw [sI_na (by omega)])
    unfold PT_X12_element
    refine p_isShelf (fun _ => ⟨fun e => absurd e (by decide), fun _ => ⟨g8, ?_⟩⟩) (fun w => absurd g8 w)
    rw [rfa (q := o + 42) 25 _ (by decide), rfa (q := o + 42) 26 _ (by decide), e1, et]
    refine ⟨fun z => by omega, fun z => ⟨g8, by rw [← et]; exact hrg, fun z2 => absurd (show 0 ≤ x2 ∧ x2 ≤ rf (o + 42) S 26 d - 1 by omega) (isin_0.mp z2), fun z2 => ?_⟩⟩
    refine p_isShelf (fun _ => ⟨fun _ => ⟨fun e => absurd e (by decide), fun _ => fin _ 0 1 (S.1 e x2.toNat) hT1 e1 (fun _ => by rw [sI_eq]) (fun e => absurd e (by decide)) (fun _ => ⟨g8.1, g8.2, by omega, by omega, ?_⟩)⟩, fun e => absurd e (by decide)⟩) (fun w => absurd g8 w)
    rw [g10 x2.toNat (by omega), show (60 * x1 + x2).toNat = 60 * d + x2.toNat by omega]
