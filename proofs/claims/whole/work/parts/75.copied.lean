/-! ===== PURE PART: pair copy ===== -/
/-- the reference's memory with i elements copied from place s on to place t on -/
def cpR (R : Rm) (s t i : Nat) : Rm := fun a j => if a = 28 ∧ t ≤ j ∧ j < t + i then R 28 (s + (j - t)) else R a j
theorem cpR_s {R : Rm} {s t i : Nat} : uR (cpR R s t i) 28 (t + i) (R 28 (s + i)) = cpR R s t (i + 1) := by
  funext a j
  rw [uR_1]
  unfold cpR
  by_cases e : a = 28 ∧ j = t + i
  · rw [if_pos e, if_pos (by omega), show s + (j - t) = s + i by omega]
  · rw [if_neg e]
    by_cases e2 : a = 28 ∧ t ≤ j ∧ j < t + i
    · rw [if_pos e2, if_pos (by omega)]
    · rw [if_neg e2, if_neg (by omega)]
theorem cpR_0 {R : Rm} {s t : Nat} : cpR R s t 0 = R := by
  funext a j
  unfold cpR
  rw [if_neg (by omega)]
theorem pr_copy {o : Nat} {V : Vt} {S : Me} {n x1 x2 x3 x4 x5 : Int} (h : jJ o V S n) : PT_X11_copy V o x1 x2 x3 x4 x5 S (fun r S1 => PT_X12_copy V (o + 42) x1 x2 x3 x4 x5 S1 (fun r2 S2 => r2 = r ∧ jJ o V S2 n)) := by
  obtain ⟨c, hT⟩ := jJ_st h
  obtain ⟨hV, hS, hP, hG, hL, hrL, hM, hrM, hA, hrA, hrO, hQ, hW, hH, hs⟩ := hT.1
  have h73 := hV.2.2.1
  have nosh : ¬ ((0 ≤ x1 ∧ x1 < 8) ∧ (0 ≤ x3 ∧ x3 < 8)) → PT_X12_copy V (o + 42) x1 x2 x3 x4 x5 S (fun r2 S2 => r2 = -1 ∧ jJ o V S2 n) := by
    intro g S1 e1
    obtain ⟨t1, t2⟩ := th_0 e1
    have j := jJ_end hT t1 t2
    exact p_isShelf (fun g1 => ⟨fun e => absurd e (by decide), fun _ => p_isShelf (fun g2 => absurd ⟨g1, g2⟩ g) (fun _ => ⟨fun e => absurd rfl e, fun _ => ⟨rfl, j⟩⟩)⟩) (fun _ => ⟨fun _ => ⟨rfl, j⟩, fun e => absurd rfl e⟩)
  unfold PT_X11_copy
  refine p_shelf hH (fun d ed hd => ?_) (fun g => ?_)
  rotate_left
  · refine p_shelf hH (fun e ee he => ⟨fun _ => nosh (fun w => g w.1), fun w => absurd rfl w⟩) (fun g2 => ⟨fun _ => nosh (fun w => g w.1), fun w => absurd rfl w⟩)
  refine p_shelf hH (fun e ee he => ⟨fun w => (by cases w), fun _ => ⟨fun _ => ⟨o + 34 + d, rfl, hV.2.2.2.2 d hd, ?_⟩, fun w => by cases w⟩⟩) (fun g2 => ⟨fun w => (by cases w), fun _ => ⟨fun w => absurd rfl w, fun _ => nosh (fun w => g2 w.2)⟩⟩)
  have et : x1.toNat = d := by omega
  have eu : x3.toNat = e := by omega
  have g1 : 0 ≤ x1 ∧ x1 < 8 := by omega
  have g3 : 0 ≤ x3 ∧ x3 < 8 := by omega
  -- what the reference says
  have ref : ∀ (S1 : Me) (r : Int), jT o V S1 c (rf (o + 42) S) n → rf (o + 42) S1 = rf (o + 42) S → (rf (o + 42) S 25 d = 0 ∨ rf (o + 42) S 25 e = 0 → r = -11) → (¬ rf (o + 42) S 25 d = 0 → ¬ rf (o + 42) S 25 e = 0 → (rf (o + 42) S 25 d < 3 ∨ ¬ rf (o + 42) S 25 d = rf (o + 42) S 25 e) → r = -12) → (¬ rf (o + 42) S 25 d = 0 → ¬ rf (o + 42) S 25 e = 0 → ¬ rf (o + 42) S 25 d < 3 → rf (o + 42) S 25 d = rf (o + 42) S 25 e → r = -13 ∧ (0 ≤ rf (o + 42) S 26 d ∧ rf (o + 42) S 26 d ≤ 60) ∧ (0 ≤ rf (o + 42) S 26 e ∧ rf (o + 42) S 26 e ≤ 60) ∧ ¬ ((0 ≤ x5 ∧ 0 ≤ x2 ∧ x2 ≤ rf (o + 42) S 26 d ∧ x5 ≤ rf (o + 42) S 26 d - x2) ∧ (0 ≤ x5 ∧ 0 ≤ x4 ∧ x4 ≤ rf (o + 42) S 26 e ∧ x5 ≤ rf (o + 42) S 26 e - x4))) → PT_X12_copy V (o + 42) x1 x2 x3 x4 x5 S1 (fun r2 S2 => r2 = r ∧ jJ o V S2 n) := by
    intro S1 r hT1 eR r11 r12 r13 S2 e2
    obtain ⟨t1, t2⟩ := th_0 e2
    have j := jJ_end hT1 t1 (by rw [t2, eR])
    refine p_isShelf (fun _ => ⟨fun w => absurd w (by decide), fun _ => p_isShelf (fun _ => ⟨fun _ => ⟨g1, ?_⟩, fun w => absurd w (by decide)⟩) (fun w => absurd g3 w)⟩) (fun w => absurd g1 w)
    unfold B_X12_copy_39 B_X12_copy_67 B_X12_copy_93
    rw [rfa (q := o + 42) (S := S2) 25 _ (by decide), rfa (q := o + 42) (S := S2) 25 _ (by decide), t2, eR, et, eu]
    refine ⟨fun z => ⟨(r11 (Or.inl z)).symm, j⟩, fun z => ⟨g3, fun z2 => ⟨g1, fun z3 => ⟨(r12 z z2 (Or.inl z3)).symm, j⟩, fun z3 => ⟨g1, g3, fun z4 => ?_, fun z4 => ⟨(r12 z z2 (Or.inr z4)).symm, j⟩⟩⟩, fun z2 => ⟨(r11 (Or.inr z2)).symm, j⟩⟩⟩
    obtain ⟨q1, q2, q3, q4⟩ := r13 z z2 z3 z4
    refine p_places g1 (by rw [t2, eR, et]; exact q2) (fun w => ⟨fun y => absurd y (by decide), fun _ => p_places g3 (by rw [t2, eR, eu]; exact q3) (fun w2 => ?_) (fun _ => ⟨fun y => absurd rfl y, fun _ => ⟨q1.symm, j⟩⟩)⟩) (fun _ => ⟨fun _ => ⟨q1.symm, j⟩, fun y => absurd rfl y⟩)
    rw [t2, eR, et] at w
    rw [t2, eR, eu] at w2
    exact absurd ⟨w, w2⟩ q4
  have e22 := fun d hd => hH.2.1 d hd
  unfold PT_X8_isEmpty B_X11_copy_42 B_X11_copy_82 B_X11_copy_108
  rcases hH.2.1 d hd with ⟨a1, a2, a3⟩ | ⟨a1, k, a2, a3, a4, a5⟩ | ⟨a1, a2, z9, a3, a4, a5, a6, a7, a8, a9, a10⟩
  · rw [a2, a3]
    exact ⟨fun w => absurd rfl w, fun _ => ⟨fun w => absurd rfl w, fun _ => ⟨fun _ => ref S _ hT rfl (fun _ => rfl) (fun w => absurd a1 w) (fun w => absurd a1 w), fun w => absurd w (by decide)⟩⟩⟩
  · -- an Ask on the first
    rw [a4, a5]
    refine ⟨fun _ => ⟨fun w => absurd rfl w, fun _ => ⟨o + 34 + e, rfl, hV.2.2.2.2 e he, ?_⟩⟩, fun w => by cases w⟩
    rcases hH.2.1 e he with ⟨b1, b2, b3⟩ | ⟨b1, k', b2, b3, b4, b5⟩ | ⟨b1, b2, z13, b3, -⟩
    · rw [b2, b3]
      exact ⟨fun w => absurd rfl w, fun _ => ⟨fun w => absurd rfl w, fun _ => ⟨fun w => absurd w (by decide), fun _ => ref S _ hT rfl (fun _ => rfl) (fun _ w => absurd b1 w) (fun _ w => absurd b1 w)⟩⟩⟩
    · rw [b4]
      exact ⟨fun _ => ⟨fun _ => ⟨fun _ => ref S _ hT rfl (fun w => by omega) (fun _ _ _ => rfl) (fun _ _ w => absurd (by omega) w), fun w => absurd a5 w⟩, fun w => absurd rfl w⟩, fun w => by cases w⟩
    · rw [b2, b3]
      exact ⟨fun w => absurd rfl w, fun _ => ⟨fun _ => ⟨fun _ => ⟨fun _ => ref S _ hT rfl (fun w => by omega) (fun _ _ _ => rfl) (fun _ _ w => absurd (by omega) w), fun w => absurd a5 w⟩, fun w => absurd rfl w⟩, fun w => by cases w⟩⟩
  · rw [a2, a3]
    have hd26 : 0 ≤ rf (o + 42) S 26 d ∧ rf (o + 42) S 26 d ≤ 60 := ⟨by omega, a8⟩
    refine ⟨fun w => absurd rfl w, fun _ => ⟨fun _ => ⟨fun w => absurd rfl w, fun _ => ⟨o + 34 + e, rfl, hV.2.2.2.2 e he, ?_⟩⟩, fun w => by cases w⟩⟩
    rcases hH.2.1 e he with ⟨b1, b2, b3⟩ | ⟨b1, k', b2, b3, b4, b5⟩ | ⟨b1, b2, z13, b3, b4, b5, b6, b7, b8, b9, b10⟩
    · rw [b2, b3]
      exact ⟨fun w => absurd rfl w, fun _ => ⟨fun w => absurd rfl w, fun _ => ⟨fun w => absurd w (by decide), fun _ => ref S _ hT rfl (fun _ => rfl) (fun _ w => absurd b1 w) (fun _ w => absurd b1 w)⟩⟩⟩
    · rw [b4, b5]
      exact ⟨fun _ => ⟨fun _ => ⟨fun w => (by rw [a3] at w; cases w), fun _ => ⟨fun _ => ref S _ hT rfl (fun w => by omega) (fun _ _ _ => rfl) (fun _ _ _ w => by omega), fun w => absurd b5 w⟩⟩, fun w => absurd rfl w⟩, fun w => by cases w⟩
    · rw [b2, b3]
      have he26 : 0 ≤ rf (o + 42) S 26 e ∧ rf (o + 42) S 26 e ≤ 60 := ⟨by omega, b8⟩
      refine ⟨fun w => absurd rfl w, fun _ => ⟨fun _ => ⟨fun _ => ⟨fun w => (by rw [a3] at w; cases w), fun _ => ⟨fun w => (by rw [b3] at w; cases w), fun _ => ?_⟩⟩, fun w => absurd rfl w⟩, fun w => by cases w⟩⟩
      rw [a9, b9, a3, b3]
      have same : (if rf (o + 42) S 25 d = 3 then (1 : Int) else 0) = (if rf (o + 42) S 25 e = 3 then 1 else 0) ↔ rf (o + 42) S 25 d = rf (o + 42) S 25 e := by
        split <;> split <;> omega
      refine ⟨fun w => ?_, fun w => ref S _ hT rfl (fun y => by omega) (fun _ _ _ => rfl) (fun _ _ _ y => absurd (same.mpr y) w)⟩
      have w := same.mp w
      have no13 : ¬ ((0 ≤ x5 ∧ 0 ≤ x2 ∧ x2 ≤ rf (o + 42) S 26 d ∧ x5 ≤ rf (o + 42) S 26 d - x2) ∧ (0 ≤ x5 ∧ 0 ≤ x4 ∧ x4 ≤ rf (o + 42) S 26 e ∧ x5 ≤ rf (o + 42) S 26 e - x4)) → PT_X12_copy V (o + 42) x1 x2 x3 x4 x5 S (fun r2 S2 => r2 = -13 ∧ jJ o V S2 n) := fun y => ref S _ hT rfl (fun v => by omega) (fun _ _ v => by omega) (fun _ _ _ _ => ⟨rfl, hd26, he26, y⟩)
      refine p_span a6 a7 a8 (fun s1 => ⟨fun y => absurd y (by decide), fun _ => p_span b6 b7 b8 (fun s2 => ⟨fun _ => ⟨z9, rfl, a6, z13, rfl, b6, ⟨by omega, by omega, by omega, by omega, by omega⟩, fun S31 e31 => ?_⟩, fun y => absurd y (by decide)⟩) (fun s2 => ⟨fun y => absurd rfl y, fun _ => no13 (fun y => s2 y.2)⟩)⟩) (fun s1 => ⟨fun _ => no13 (fun y => s1 y.1), fun y => absurd rfl y⟩)
      -- the copy
      have o31 : ∀ b, b ≠ z13 → S31.1 b = S.1 b := fun b hb => by
        rw [e31]
        funext j
        unfold cpI
        exact if_neg (fun y => hb y.1)
      have o312 : S31.2 = S.2 := by rw [e31]; rfl
      have eR : rf (o + 42) S31 = rf (o + 42) S := rf_c (fun b b1 b2 => o31 b (by omega))
      have hT' : jT o V S31 c (cpR (rf (o + 42) S) (60 * d + x2.toNat) (60 * e + x4.toNat) x5.toNat) n := by
        refine jT_H hT (exV.rf V) (fun b hb => ⟨o31 b (by omega), by rw [o312]⟩) (fun i hi => ⟨o31 _ (fun y => ?_), by rw [o312]⟩) (fun a ha => ?_) ⟨by rw [o312]; exact hH.1, fun d' hd' => ?_, by rw [o312]; exact hH.2.2⟩
        · have := (hA i hi).1.2.2.2.1
          rw [y, b6] at this
          exact absurd this (by decide)
        · funext j
          unfold cpR
          rw [if_neg (by omega)]
        · have c25 : ∀ a, a ≠ 28 → cpR (rf (o + 42) S) (60 * d + x2.toNat) (60 * e + x4.toNat) x5.toNat a = rf (o + 42) S a := fun a ha => by
            funext j
            unfold cpR
            rw [if_neg (by omega)]
          rw [c25 25 (by decide), c25 26 (by decide), c25 27 (by decide), c25 0 (by decide), o312]
          rcases hH.2.1 d' hd' with g | g | ⟨p1, p2, y, p3, p4, p5, p6, p7, p8, p9, p10⟩
          · exact Or.inl g
          · exact Or.inr (Or.inl g)
          · refine Or.inr (Or.inr ⟨p1, p2, y, p3, p4, p5, p6, p7, p8, by rw [o31 _ (by omega)]; exact p9, fun i hi => ?_⟩)
            by_cases q : d' = e
            · subst q
              have ey : y = z13 := Option.some.inj (p3.symm.trans b3)
              subst ey
              rw [e31]
              unfold cpI cpR
              by_cases v : Int.toNat x4 ≤ i ∧ i < Int.toNat x4 + Int.toNat x5
              · have hv1 : y = y ∧ Int.toNat x4 ≤ i ∧ i < Int.toNat x4 + Int.toNat x5 := ⟨rfl, v⟩
                have hv2 : (28 : Nat) = 28 ∧ 60 * d' + Int.toNat x4 ≤ 60 * d' + i ∧ 60 * d' + i < 60 * d' + Int.toNat x4 + Int.toNat x5 := by omega
                rw [if_pos hv2]
                refine (if_pos hv1).trans ?_
                rw [a10 _ (by omega)]
                congr 1
                omega
              · have hv2 : ¬ ((28 : Nat) = 28 ∧ 60 * d' + Int.toNat x4 ≤ 60 * d' + i ∧ 60 * d' + i < 60 * d' + Int.toNat x4 + Int.toNat x5) := by omega
                rw [if_neg hv2]
                refine (if_neg (fun u => v u.2)).trans ?_
                exact p10 i hi
            · have hy : y ≠ z13 := fun u => q (hH.2.2 d' e z13 hd' he (by rw [← u]; exact p3) b3)
              rw [o31 y hy, p10 i hi]
              unfold cpR
              rw [if_neg (by omega)]
      intro S2 e2
      obtain ⟨t1, t2⟩ := th_0 e2
      rw [eR] at t2
      refine p_isShelf (fun _ => ⟨fun w => absurd w (by decide), fun _ => p_isShelf (fun _ => ⟨fun _ => ⟨g1, ?_⟩, fun w => absurd w (by decide)⟩) (fun w => absurd g3 w)⟩) (fun w => absurd g1 w)
      rw [rfa (q := o + 42) (S := S2) 25 _ (by decide), rfa (q := o + 42) (S := S2) 25 _ (by decide), t2, et, eu]
      refine ⟨fun z => by omega, fun _ => ⟨g3, fun _ => ⟨g1, fun z => by omega, fun _ => ⟨g1, g3, fun _ => ?_, fun z => absurd w z⟩⟩, fun z => by omega⟩⟩
      refine p_places g1 (by rw [t2, et]; exact hd26) (fun _ => ⟨fun y => absurd y (by decide), fun _ => p_places g3 (by rw [t2, eu]; exact he26) (fun _ => ⟨fun _ => ?_, fun y => absurd y (by decide)⟩) (fun y => absurd s2 (by rw [t2, eu] at y; exact y))⟩) (fun y => absurd s1 (by rw [t2, et] at y; exact y))
      have k2 : ∀ (m i : Nat) (T : Me), (i : Int) + (m : Int) = x5 → fR (o + 42) S31 T → rf (o + 42) T = cpR (rf (o + 42) S) (60 * d + x2.toNat) (60 * e + x4.toNat) i → (∀ j : Nat, (j : Int) < x5 → T.1 (o + 42 + 29) j = rf (o + 42) S 28 (60 * d + x2.toNat + j)) → B_X12_copy_136 V (o + 42) x1 x2 x3 x4 x5 (fun r2 S2 => r2 = x5 ∧ jJ o V S2 n) (m + 1) (i : Int) T := by
        intro m
        induction m with
        | zero =>
          intro i T em f1 r1 _
          unfold B_X12_copy_136
          refine ⟨fun _ => ⟨rfl, jJ_end hT' f1 ?_⟩, fun z => by omega⟩
          rw [r1, show x5.toNat = i by omega]
        | succ m ih =>
          intro i T em f1 r1 rb
          unfold B_X12_copy_136
          refine ⟨fun z => by omega, fun _ => ⟨by unfold rng; omega, by unfold rng; omega, by unfold rng; omega, by omega, by omega, fun T8 u8 => ⟨by unfold rng; omega, ?_⟩⟩⟩
          rw [tn, rb i (by omega)] at u8
          have := ih (i + 1) T8 (by omega) (by rw [u8]; exact fR_s f1 (by decide)) (by rw [u8, rf_w (by unfold scr; omega), r1, show Int.toNat (60 * x3 + x4 + (i : Int)) = 60 * e + x4.toNat + i by omega, cpR_s]) (fun j hj => by rw [u8, sI_na (by omega), rb j hj])
          exact this
      have k1 : ∀ (m i : Nat) (T : Me), (i : Int) + (m : Int) = x5 → fR (o + 42) S31 T → rf (o + 42) T = rf (o + 42) S → (∀ j : Nat, j < i → T.1 (o + 42 + 29) j = rf (o + 42) S 28 (60 * d + x2.toNat + j)) → B_X12_copy_99 V (o + 42) x1 x2 x3 x4 x5 (fun r2 S2 => r2 = x5 ∧ jJ o V S2 n) (m + 1) (i : Int) T := by
        intro m
        induction m with
        | zero =>
          intro i T em f1 r1 rb
          unfold B_X12_copy_99
          refine ⟨fun _ => ⟨x5.toNat + 1, k2 x5.toNat 0 T (by omega) f1 (by rw [r1, cpR_0]) (fun j hj => rb j (by omega))⟩, fun z => by omega⟩
        | succ m ih =>
          intro i T em f1 r1 rb
          unfold B_X12_copy_99
          refine ⟨fun z => by omega, fun _ => ⟨by unfold rng; omega, by unfold rng; omega, by unfold rng; omega, by omega, by omega, fun T8 u8 => ⟨by unfold rng; omega, ?_⟩⟩⟩
          rw [tn, rfa (q := o + 42) (S := T) 28 _ (by decide), r1, show Int.toNat (60 * x1 + x2 + (i : Int)) = 60 * d + x2.toNat + i by omega] at u8
          have := ih (i + 1) T8 (by omega) (by rw [u8]; exact fR_s f1 (by decide)) (by rw [u8, rf_s (by unfold scr; omega), r1]) (fun j hj => by
            rw [u8, sI_at]
            by_cases v : j = i
            · rw [if_pos v, v]
            · rw [if_neg v, rb j (by omega)])
          exact this
      exact ⟨x5.toNat + 1, k1 x5.toNat 0 S2 (by omega) t1 t2 (fun j hj => by omega)⟩
